/-! SecondLife$Ways.afterDrawing(I)I -/
def f_X10_afterDrawing (z : Sh) (h : Hp) (v0 : Nat) (v1 : Int32) : Option (Int32) :=
  if z.K v0 = 10 then
    (f_X10_lifeOf z h v1).bind fun x1 =>
    if x1 = 0 then
      (gI z h 10 v0 6).bind fun x3 =>
      if x3 = 0 then
        some ((-1) : Int32)
      else
        (f_X10_yearOf z h v1).bind fun x5 =>
        (f_X10_grownAt z h v0 x5).bind fun x6 =>
        some ((((1 + x5) * 7) + x6) * 25)
    else
      some ((-1) : Int32)
  else none
theorem k_X10_afterDrawing {z : Sh} {h : Hp} {v0 : Nat} {v1 : Int32} {w : Int32} (hf : f_X10_afterDrawing z h v0 v1 = some w) : z.K v0 = 10 := by
  unfold f_X10_afterDrawing at hf
  exact (if_some hf).1
set_option maxHeartbeats 4000000 in
theorem c_X10_afterDrawing {l : Launch} {s0 : State} {E : Ev} (G : Gl s0 E) {z : Sh} {h : Hp} {v0 : Nat} {v1 : Int32} {r : Int32} (hf : f_X10_afterDrawing z h v0 v1 = some r) : Ct l s0 E yX10_afterDrawing cX10_afterDrawing 3 (some .int) 1 21 [.ref v0, .int v1] z h h (some (.int r)) := by
  refine Ct.of G (by decide) (Nat.le_of_ble_eq_true rfl) ?_
  intro p e s m below meth c ls B hw hz hc0 hr hlk hl
  have B : Bd p s0 s E m c cX10_afterDrawing 3 RX10 := B
  have hx := B.1
  have hb := B.2.1
  have hl : lv_has ls 3 [(0, .ref v0), (1, .int v1)] := hl
  unfold f_X10_afterDrawing at hf
  obtain ⟨_, hf⟩ := if_some hf
  refine lv_iload_n hx hb dX10_afterDrawing_0 rfl (lv_at hl 1 rfl) ?_
  obtain ⟨x1, e, hf⟩ := ob hf
  refine q_callS (As := [.int v1]) (rest := []) (st1 := [.int x1]) (c_X10_lifeOf G e) B hw hz hc0 my_X10_lifeOf mv_X10_lifeOf tw_4_211 ⟨Nat.le_of_ble_eq_true rfl, Nat.le_of_ble_eq_true rfl⟩ ⟨Nat.zero_le _, Nat.zero_le _⟩ rfl hl.1 rfl rfl (Nat.le_of_ble_eq_true rfl) dX10_afterDrawing_1 (fun H locs hw => ?_)
  refine lv_if_ne (tgt := 14) hx hb dX10_afterDrawing_4 (by decide) (fun c2 => ?_) (fun c2 => ?_)
  · have hf := (if_neg c2).symm.trans hf
    refine lv_iconst (v := (-1)) hx hb dX10_afterDrawing_14 (by decide) ?_
    obtain rfl := so hf
    exact q_iret B hw hz hc0 hr hlk dX10_afterDrawing_15
  · have hf := (if_pos c2).symm.trans hf
    refine lv_aload_n hx hb dX10_afterDrawing_7 rfl (lv_at hl 0 rfl) ?_
    obtain ⟨x3, e, hf⟩ := ob hf
    refine q_getI e B hw fd_10_6.1 fd_10_6.2.1 fd_10_6.2.2.1 fd_10_6.2.2.2.1 fd_10_6.2.2.2.2 rfl tw_1_235 dX10_afterDrawing_8 ?_
    refine lv_if_ne (tgt := 16) hx hb dX10_afterDrawing_11 (by decide) (fun c4 => ?_) (fun c4 => ?_)
    · have hf := (if_neg c4).symm.trans hf
      refine lv_iload_n hx hb dX10_afterDrawing_16 rfl (lv_at hl 1 rfl) ?_
      obtain ⟨x5, e, hf⟩ := ob hf
      refine q_callS (As := [.int v1]) (rest := []) (st1 := [.int x5]) (c_X10_yearOf G e) B hw hz hc0 my_X10_yearOf mv_X10_yearOf tw_4_182 ⟨Nat.le_of_ble_eq_true rfl, Nat.le_of_ble_eq_true rfl⟩ ⟨Nat.zero_le _, Nat.zero_le _⟩ rfl hl.1 rfl rfl (Nat.le_of_ble_eq_true rfl) dX10_afterDrawing_17 (fun H locs hw => ?_)
      refine lv_istore_n (lv' := [(2, .int x5), (0, .ref v0), (1, .int v1)]) hx hb dX10_afterDrawing_20 rfl hl (by decide) rfl (fun ls hl => ?_)
      refine lv_iconst (v := 1) hx hb dX10_afterDrawing_21 (by decide) ?_
      refine lv_iload_n hx hb dX10_afterDrawing_22 rfl (lv_at hl 0 rfl) ?_
      refine lv_iadd hx hb dX10_afterDrawing_23 ?_
      refine lv_bipush (v := 7) hx hb dX10_afterDrawing_24 (by decide) ?_
      refine lv_imul hx hb dX10_afterDrawing_26 ?_
      refine lv_aload_n hx hb dX10_afterDrawing_27 rfl (lv_at hl 1 rfl) ?_
      refine lv_iload_n hx hb dX10_afterDrawing_28 rfl (lv_at hl 0 rfl) ?_
      obtain ⟨x6, e, hf⟩ := ob hf
      refine q_callV (As := [.int x5]) (rest := [.int ((1 + x5) * 7)]) (st1 := [.int x6, .int ((1 + x5) * 7)]) (c_X10_grownAt G e) B hw hz hc0 (k_X10_grownAt e) (by decide) (ci := 10) rfl rfl my_X10_grownAt mv_X10_grownAt tw_4_223 ⟨Nat.le_of_ble_eq_true rfl, Nat.le_of_ble_eq_true rfl⟩ ⟨Nat.zero_le _, Nat.zero_le _⟩ rfl hl.1 rfl rfl (Nat.le_of_ble_eq_true rfl) dX10_afterDrawing_29 (fun H locs hw => ?_)
      refine lv_iadd hx hb dX10_afterDrawing_32 ?_
      refine lv_bipush (v := 25) hx hb dX10_afterDrawing_33 (by decide) ?_
      refine lv_imul hx hb dX10_afterDrawing_35 ?_
      obtain rfl := so hf
      exact q_iret B hw hz hc0 hr hlk dX10_afterDrawing_36
    · have hf := (if_pos c4).symm.trans hf
      refine lv_iconst (v := (-1)) hx hb dX10_afterDrawing_14 (by decide) ?_
      obtain rfl := so hf
      exact q_iret B hw hz hc0 hr hlk dX10_afterDrawing_15
/-! java/lang/String.length()I -/
def f_J0_length_8abf5 (z : Sh) (h : Hp) (v0 : Nat) : Option (Int32) :=
  if z.isS v0 = true then
    (gSV z h v0).bind fun a1 =>
    (aL z a1).bind fun x2 =>
    (f_J0_coder_7d493 z h v0).bind fun x3 =>
    some (x2 >>> (x3 &&& 31))
  else none
theorem k_J0_length_8abf5 {z : Sh} {h : Hp} {v0 : Nat} {w : Int32} (hf : f_J0_length_8abf5 z h v0 = some w) : z.isS v0 = true := by
  unfold f_J0_length_8abf5 at hf
  exact (if_some hf).1
set_option maxHeartbeats 4000000 in
theorem c_J0_length_8abf5 {l : Launch} {s0 : State} {E : Ev} (G : Gl s0 E) {z : Sh} {h : Hp} {v0 : Nat} {r : Int32} (hf : f_J0_length_8abf5 z h v0 = some r) : Ct l s0 E yJ0_length_8abf5 cJ0_length_8abf5 1 (some .int) 1 20 [.ref v0] z h h (some (.int r)) := by
  refine Ct.ofF G (by decide +kernel) (Nat.le_of_ble_eq_true rfl) ?_
  intro p e s m below meth c ls B hw hz hc0 hr hlk hl
  have B : Bd p s0 s E m c cJ0_length_8abf5 1 RJ0 := B
  have hx := B.1
  have hb := B.2.1
  have hl : lv_has ls 1 [(0, .ref v0)] := hl
  unfold f_J0_length_8abf5 at hf
  obtain ⟨_, hf⟩ := if_some hf
  refine lv_aload_n hx hb dJ0_length_8abf5_0 rfl (lv_at hl 0 rfl) ?_
  obtain ⟨a1, e, hf⟩ := ob hf
  refine q_gSV e B hw rfl tw_8_212 dJ0_length_8abf5_1 ?_
  obtain ⟨x2, e, hf⟩ := ob hf
  refine q_len e B hw dJ0_length_8abf5_4 ?_
  refine lv_aload_n hx hb dJ0_length_8abf5_5 rfl (lv_at hl 0 rfl) ?_
  obtain ⟨x3, e, hf⟩ := ob hf
  refine q_callVS (As := []) (rest := [.int x2]) (st1 := [.int x3, .int x2]) (c_J0_coder_7d493 G e) B hw hz hc0 (k_J0_coder_7d493 e) rfl my_J0_coder_7d493 mv_J0_coder_7d493 tw_2_207 ⟨Nat.le_of_ble_eq_true rfl, Nat.le_of_ble_eq_true rfl⟩ ⟨Nat.zero_le _, Nat.zero_le _⟩ rfl hl.1 rfl rfl (Nat.le_of_ble_eq_true rfl) dJ0_length_8abf5_6 (fun H locs hw => ?_)
  refine lv_ishr hx hb dJ0_length_8abf5_9 ?_
  obtain rfl := so hf
  exact q_iret B hw hz hc0 hr hlk dJ0_length_8abf5_10
/-! java/lang/String.checkIndex(II)V -/
def f_J0_checkIndex_df160 (z : Sh) (h : Hp) (v0 : Int32) (v1 : Int32) : Option (Unit) :=
  (f_J3_checkIndex_8e157 z h v0 v1 (opS (z.st 3))).bind fun x1 =>
  some ()
set_option maxHeartbeats 4000000 in
theorem c_J0_checkIndex_df160 {l : Launch} {s0 : State} {E : Ev} (G : Gl s0 E) {z : Sh} {h : Hp} {v0 : Int32} {v1 : Int32} (hf : f_J0_checkIndex_df160 z h v0 v1 = some ()) : Ct l s0 E yJ0_checkIndex_df160 cJ0_checkIndex_df160 2 none 1 22 [.int v0, .int v1] z h h (none) := by
  refine Ct.ofF G (by decide +kernel) (Nat.le_of_ble_eq_true rfl) ?_
  intro p e s m below meth c ls B hw hz hc0 hr hlk hl
  have B : Bd p s0 s E m c cJ0_checkIndex_df160 2 RJ0 := B
  have hx := B.1
  have hb := B.2.1
  have hl : lv_has ls 2 [(0, .int v0), (1, .int v1)] := hl
  unfold f_J0_checkIndex_df160 at hf
  refine lv_iload_n hx hb dJ0_checkIndex_df160_0 rfl (lv_at hl 0 rfl) ?_
  refine lv_iload_n hx hb dJ0_checkIndex_df160_1 rfl (lv_at hl 1 rfl) ?_
  refine q_gsO (k := 3) G.2.2.2.2.2.1.2 B hw rfl tw_3_2 dJ0_checkIndex_df160_2 ?_
  obtain ⟨x1, e, hf⟩ := ob hf
  refine q_callS (As := [.int v0, .int v1, va_rf (opS (z.st 3))]) (rest := []) (st1 := [.int x1]) (c_J3_checkIndex_8e157 G e) B hw hz hc0 my_J3_checkIndex_8e157 mv_J3_checkIndex_8e157 tw_3_57 ⟨Nat.le_of_ble_eq_true rfl, Nat.le_of_ble_eq_true rfl⟩ ⟨Nat.zero_le _, Nat.zero_le _⟩ rfl hl.1 rfl rfl (Nat.le_of_ble_eq_true rfl) dJ0_checkIndex_df160_5 (fun H locs hw => ?_)
  refine lv_pop hx hb dJ0_checkIndex_df160_8 rfl ?_
  cases hf
  exact q_vret B hw hz hc0 hr hlk dJ0_checkIndex_df160_9
/-! java/lang/StringLatin1.charAt([BI)C -/
def f_J1_charAt_3b067 (z : Sh) (h : Hp) (v0 : Nat) (v1 : Int32) : Option (Int32) :=
  (aL z v0).bind fun x1 =>
  (f_J0_checkIndex_df160 z h v1 x1).bind fun _ =>
  (ldB z h v0 v1).bind fun x2 =>
  bc ((Int32.toUInt32 (x2 &&& 255) % 65536).toInt32)
set_option maxHeartbeats 4000000 in
theorem c_J1_charAt_3b067 {l : Launch} {s0 : State} {E : Ev} (G : Gl s0 E) {z : Sh} {h : Hp} {v0 : Nat} {v1 : Int32} {r : Int32} (hf : f_J1_charAt_3b067 z h v0 v1 = some r) : Ct l s0 E yJ1_charAt_3b067 cJ1_charAt_3b067 2 (some .char) 2 43 [.ref v0, .int v1] z h h (some (.int r)) := by
  refine Ct.ofF G (by decide +kernel) (Nat.le_of_ble_eq_true rfl) ?_
  intro p e s m below meth c ls B hw hz hc0 hr hlk hl
  have B : Bd p s0 s E m c cJ1_charAt_3b067 2 RJ1 := B
  have hx := B.1
  have hb := B.2.1
  have hl : lv_has ls 2 [(0, .ref v0), (1, .int v1)] := hl
  unfold f_J1_charAt_3b067 at hf
  refine lv_iload_n hx hb dJ1_charAt_3b067_0 rfl (lv_at hl 1 rfl) ?_
  refine lv_aload_n hx hb dJ1_charAt_3b067_1 rfl (lv_at hl 0 rfl) ?_
  obtain ⟨x1, e, hf⟩ := ob hf
  refine q_len e B hw dJ1_charAt_3b067_2 ?_
  obtain ⟨_, e, hf⟩ := ob hf
  refine q_callS (As := [.int v1, .int x1]) (rest := []) (st1 := []) (c_J0_checkIndex_df160 G e) B hw hz hc0 my_J0_checkIndex_df160 mv_J0_checkIndex_df160 tw_3_54 ⟨Nat.le_of_ble_eq_true rfl, Nat.le_of_ble_eq_true rfl⟩ ⟨Nat.zero_le _, Nat.zero_le _⟩ rfl hl.1 rfl rfl (Nat.le_of_ble_eq_true rfl) dJ1_charAt_3b067_3 (fun H locs hw => ?_)
  refine lv_aload_n hx hb dJ1_charAt_3b067_6 rfl (lv_at hl 0 rfl) ?_
  refine lv_iload_n hx hb dJ1_charAt_3b067_7 rfl (lv_at hl 1 rfl) ?_
  obtain ⟨x2, e, hf⟩ := ob hf
  refine q_ldB e B hw dJ1_charAt_3b067_8 ?_
  refine lv_sipush (v := 255) hx hb dJ1_charAt_3b067_9 (by decide) ?_
  refine lv_iand hx hb dJ1_charAt_3b067_12 ?_
  refine lv_i2c (v := ((Int32.toUInt32 (x2 &&& 255) % 65536).toInt32)) hx hb dJ1_charAt_3b067_13 rfl ?_
  obtain ⟨e1, e⟩ := if_some hf
  cases e
  exact q_cret e1 B hw hz hc0 hr hlk dJ1_charAt_3b067_14
/-! java/lang/StringLatin1.indexOf([BIII)I -/
def f_J1_indexOf_4cfef (n : Nat) (z : Sh) (h : Hp) (v0 : Nat) (v1 : Int32) (v2 : Int32) (v3 : Int32) : Option (Int32) :=
  (f_J1_canEncode_9a6ad z h v1).bind fun x1 =>
  if x1 = 0 then
    some ((-1) : Int32)
  else
    (f_J9_max_7cf53 z h v2 0).bind fun x3 =>
    (aL z v0).bind fun x4 =>
    (f_J9_min_7cf53 z h v3 x4).bind fun x5 =>
    if x3 < x5 then
      (f_J1_indexOfChar_4cfef n z h v0 v1 x3 x5).bind fun x7 =>
      some x7
    else
      some ((-1) : Int32)
set_option maxHeartbeats 4000000 in
theorem c_J1_indexOf_4cfef {l : Launch} {s0 : State} {E : Ev} (G : Gl s0 E) {n : Nat} {z : Sh} {h : Hp} {v0 : Nat} {v1 : Int32} {v2 : Int32} {v3 : Int32} {r : Int32} (hf : f_J1_indexOf_4cfef n z h v0 v1 v2 v3 = some r) : Ct l s0 E yJ1_indexOf_4cfef cJ1_indexOf_4cfef 4 (some .int) 1 25 [.ref v0, .int v1, .int v2, .int v3] z h h (some (.int r)) := by
  refine Ct.ofF G (by decide +kernel) (Nat.le_of_ble_eq_true rfl) ?_
  intro p e s m below meth c ls B hw hz hc0 hr hlk hl
  have B : Bd p s0 s E m c cJ1_indexOf_4cfef 4 RJ1 := B
  have hx := B.1
  have hb := B.2.1
  have hl : lv_has ls 4 [(0, .ref v0), (1, .int v1), (2, .int v2), (3, .int v3)] := hl
  unfold f_J1_indexOf_4cfef at hf
  refine lv_iload_n hx hb dJ1_indexOf_4cfef_0 rfl (lv_at hl 1 rfl) ?_
  obtain ⟨x1, e, hf⟩ := ob hf
  refine q_callS (As := [.int v1]) (rest := []) (st1 := [.int x1]) (c_J1_canEncode_9a6ad G e) B hw hz hc0 my_J1_canEncode_9a6ad mv_J1_canEncode_9a6ad tw_2_214 ⟨Nat.le_of_ble_eq_true rfl, Nat.le_of_ble_eq_true rfl⟩ ⟨Nat.zero_le _, Nat.zero_le _⟩ rfl hl.1 rfl rfl (Nat.le_of_ble_eq_true rfl) dJ1_indexOf_4cfef_1 (fun H locs hw => ?_)
  refine lv_if_ne (tgt := 9) hx hb dJ1_indexOf_4cfef_4 (by decide) (fun c2 => ?_) (fun c2 => ?_)
  · have hf := (if_neg c2).symm.trans hf
    refine lv_iload_n hx hb dJ1_indexOf_4cfef_9 rfl (lv_at hl 2 rfl) ?_
    refine lv_iconst (v := 0) hx hb dJ1_indexOf_4cfef_10 (by decide) ?_
    obtain ⟨x3, e, hf⟩ := ob hf
    refine q_callS (As := [.int v2, .int 0]) (rest := []) (st1 := [.int x3]) (c_J9_max_7cf53 G e) B hw hz hc0 my_J9_max_7cf53 mv_J9_max_7cf53 tw_2_217 ⟨Nat.le_of_ble_eq_true rfl, Nat.le_of_ble_eq_true rfl⟩ ⟨Nat.zero_le _, Nat.zero_le _⟩ rfl hl.1 rfl rfl (Nat.le_of_ble_eq_true rfl) dJ1_indexOf_4cfef_11 (fun H locs hw => ?_)
    refine lv_istore_n (lv' := [(2, .int x3), (0, .ref v0), (1, .int v1), (3, .int v3)]) hx hb dJ1_indexOf_4cfef_14 rfl hl (by decide) rfl (fun ls hl => ?_)
    refine lv_iload_n hx hb dJ1_indexOf_4cfef_15 rfl (lv_at hl 3 rfl) ?_
    refine lv_aload_n hx hb dJ1_indexOf_4cfef_16 rfl (lv_at hl 1 rfl) ?_
    obtain ⟨x4, e, hf⟩ := ob hf
    refine q_len e B hw dJ1_indexOf_4cfef_17 ?_
    obtain ⟨x5, e, hf⟩ := ob hf
    refine q_callS (As := [.int v3, .int x4]) (rest := []) (st1 := [.int x5]) (c_J9_min_7cf53 G e) B hw hz hc0 my_J9_min_7cf53 mv_J9_min_7cf53 tw_2_218 ⟨Nat.le_of_ble_eq_true rfl, Nat.le_of_ble_eq_true rfl⟩ ⟨Nat.zero_le _, Nat.zero_le _⟩ rfl hl.1 rfl rfl (Nat.le_of_ble_eq_true rfl) dJ1_indexOf_4cfef_18 (fun H locs hw => ?_)
    refine lv_istore_n (lv' := [(3, .int x5), (2, .int x3), (0, .ref v0), (1, .int v1)]) hx hb dJ1_indexOf_4cfef_21 rfl hl (by decide) rfl (fun ls hl => ?_)
    refine lv_iload_n hx hb dJ1_indexOf_4cfef_22 rfl (lv_at hl 1 rfl) ?_
    refine lv_iload_n hx hb dJ1_indexOf_4cfef_23 rfl (lv_at hl 0 rfl) ?_
    refine lv_icmp_lt (tgt := 29) hx hb dJ1_indexOf_4cfef_24 (by decide) (fun c6 => ?_) (fun c6 => ?_)
    · have hf := (if_pos c6).symm.trans hf
      refine lv_aload_n hx hb dJ1_indexOf_4cfef_29 rfl (lv_at hl 2 rfl) ?_
      refine lv_iload_n hx hb dJ1_indexOf_4cfef_30 rfl (lv_at hl 3 rfl) ?_
      refine lv_iload_n hx hb dJ1_indexOf_4cfef_31 rfl (lv_at hl 1 rfl) ?_
      refine lv_iload_n hx hb dJ1_indexOf_4cfef_32 rfl (lv_at hl 0 rfl) ?_
      obtain ⟨x7, e, hf⟩ := ob hf
      refine q_callS (As := [.ref v0, .int v1, .int x3, .int x5]) (rest := []) (st1 := [.int x7]) (c_J1_indexOfChar_4cfef G e) B hw hz hc0 my_J1_indexOfChar_4cfef mv_J1_indexOfChar_4cfef tw_2_221 ⟨Nat.le_of_ble_eq_true rfl, Nat.le_of_ble_eq_true rfl⟩ ⟨Nat.zero_le _, Nat.zero_le _⟩ rfl hl.1 rfl rfl (Nat.le_of_ble_eq_true rfl) dJ1_indexOf_4cfef_33 (fun H locs hw => ?_)
      obtain rfl := so hf
      exact q_iret B hw hz hc0 hr hlk dJ1_indexOf_4cfef_36
    · have hf := (if_neg c6).symm.trans hf
      refine lv_iconst (v := (-1)) hx hb dJ1_indexOf_4cfef_27 (by decide) ?_
      obtain rfl := so hf
      exact q_iret B hw hz hc0 hr hlk dJ1_indexOf_4cfef_28
  · have hf := (if_pos c2).symm.trans hf
    refine lv_iconst (v := (-1)) hx hb dJ1_indexOf_4cfef_7 (by decide) ?_
    obtain rfl := so hf
    exact q_iret B hw hz hc0 hr hlk dJ1_indexOf_4cfef_8
/-! SecondLife.pledge(II)I -/
def f_X11_pledge (z : Sh) (h : Hp) (v0 : Nat) (v1 : Int32) (v2 : Int32) : Option (Int32 × Hp) :=
  if z.K v0 = 11 then
    (gR z h 11 v0 5).bind fun a1 =>
    (gR z h 11 v0 4).bind fun a2 =>
    (f_X5_copy z h a1 a2).bind fun h3 =>
    (gR z h3 11 v0 11).bind fun a4 =>
    (gR z h3 11 v0 4).bind fun a5 =>
    (f_X2_pledges z h3 a4 a5 v1 v2).bind fun (x6, h7) =>
    if x6 = 0 then
      (gR z h7 11 v0 6).bind fun a9 =>
      (gR z h7 11 v0 5).bind fun a10 =>
      (f_X4_keep z h7 a9 a10).bind fun h11 =>
      (gR z h11 11 v0 4).bind fun a12 =>
      (gI z h11 5 a12 2).bind fun x13 =>
      some (x13, h11)
    else
      (f_X11_refused z h7 (10 + x6)).bind fun x14 =>
      some (x14, h7)
  else none
theorem k_X11_pledge {z : Sh} {h : Hp} {v0 : Nat} {v1 : Int32} {v2 : Int32} {w : Int32 × Hp} (hf : f_X11_pledge z h v0 v1 v2 = some w) : z.K v0 = 11 := by
  unfold f_X11_pledge at hf
  exact (if_some hf).1
set_option maxHeartbeats 4000000 in
theorem c_X11_pledge {l : Launch} {s0 : State} {E : Ev} (G : Gl s0 E) {z : Sh} {h : Hp} {v0 : Nat} {v1 : Int32} {v2 : Int32} {r : Int32} {h' : Hp} (hf : f_X11_pledge z h v0 v1 v2 = some (r, h')) : Ct l s0 E yX11_pledge cX11_pledge 4 (some .int) 3 103 [.ref v0, .int v1, .int v2] z h h' (some (.int r)) := by
  refine Ct.of G (by decide) (Nat.le_of_ble_eq_true rfl) ?_
  intro p e s m below meth c ls B hw hz hc0 hr hlk hl
  have B : Bd p s0 s E m c cX11_pledge 4 RX11 := B
  have hx := B.1
  have hb := B.2.1
  have hl : lv_has ls 4 [(0, .ref v0), (1, .int v1), (2, .int v2)] := hl
  unfold f_X11_pledge at hf
  obtain ⟨_, hf⟩ := if_some hf
  refine lv_aload_n hx hb dX11_pledge_0 rfl (lv_at hl 0 rfl) ?_
  obtain ⟨a1, e, hf⟩ := ob hf
  refine q_getR e B hw fd_11_5.1 fd_11_5.2.1 fd_11_5.2.2.1 fd_11_5.2.2.2.1 fd_11_5.2.2.2.2 rfl tw_2_107 dX11_pledge_1 ?_
  refine lv_aload_n hx hb dX11_pledge_4 rfl (lv_at hl 0 rfl) ?_
  obtain ⟨a2, e, hf⟩ := ob hf
  refine q_getR e B hw fd_11_4.1 fd_11_4.2.1 fd_11_4.2.2.1 fd_11_4.2.2.2.1 fd_11_4.2.2.2.2 rfl tw_2_106 dX11_pledge_5 ?_
  obtain ⟨h3, e, hf⟩ := ob hf
  refine q_callVN (As := [.ref a2]) (rest := []) (st1 := []) (c_X5_copy G e) B hw hz hc0 (k_X5_copy e) (by decide) (ci := 5) rfl rfl my_X5_copy mv_X5_copy tw_4_25 ⟨Nat.le_of_ble_eq_true rfl, Nat.le_of_ble_eq_true rfl⟩ ⟨Nat.zero_le _, Nat.zero_le _⟩ rfl hl.1 rfl rfl (Nat.le_of_ble_eq_true rfl) dX11_pledge_8 (fun H locs hw => ?_)
  refine lv_aload_n hx hb dX11_pledge_11 rfl (lv_at hl 0 rfl) ?_
  obtain ⟨a4, e, hf⟩ := ob hf
  refine q_getR e B hw fd_11_11.1 fd_11_11.2.1 fd_11_11.2.2.1 fd_11_11.2.2.2.1 fd_11_11.2.2.2.2 rfl tw_2_113 dX11_pledge_12 ?_
  refine lv_aload_n hx hb dX11_pledge_15 rfl (lv_at hl 0 rfl) ?_
  obtain ⟨a5, e, hf⟩ := ob hf
  refine q_getR e B hw fd_11_4.1 fd_11_4.2.1 fd_11_4.2.2.1 fd_11_4.2.2.2.1 fd_11_4.2.2.2.2 rfl tw_2_106 dX11_pledge_16 ?_
  refine lv_iload_n hx hb dX11_pledge_19 rfl (lv_at hl 1 rfl) ?_
  refine lv_iload_n hx hb dX11_pledge_20 rfl (lv_at hl 2 rfl) ?_
  obtain ⟨⟨x6, h7⟩, e, hf⟩ := ob hf
  refine q_callVN (As := [.ref a5, .int v1, .int v2]) (rest := []) (st1 := [.int x6]) (c_X2_pledges G e) B hw hz hc0 (k_X2_pledges e) (by decide) (ci := 2) rfl rfl my_X2_pledges mv_X2_pledges tw_4_59 ⟨Nat.le_of_ble_eq_true rfl, Nat.le_of_ble_eq_true rfl⟩ ⟨Nat.zero_le _, Nat.zero_le _⟩ rfl hl.1 rfl rfl (Nat.le_of_ble_eq_true rfl) dX11_pledge_21 (fun H locs hw => ?_)
  refine lv_istore_n (lv' := [(3, .int x6), (0, .ref v0), (1, .int v1), (2, .int v2)]) hx hb dX11_pledge_24 rfl hl (by decide) rfl (fun ls hl => ?_)
  refine lv_iload_n hx hb dX11_pledge_25 rfl (lv_at hl 0 rfl) ?_
  refine lv_if_eq (tgt := 37) hx hb dX11_pledge_26 (by decide) (fun c8 => ?_) (fun c8 => ?_)
  · have hf := (if_pos c8).symm.trans hf
    refine lv_aload_n hx hb dX11_pledge_37 rfl (lv_at hl 1 rfl) ?_
    obtain ⟨a9, e, hf⟩ := ob hf
    refine q_getR e B hw fd_11_6.1 fd_11_6.2.1 fd_11_6.2.2.1 fd_11_6.2.2.2.1 fd_11_6.2.2.2.2 rfl tw_2_108 dX11_pledge_38 ?_
    refine lv_aload_n hx hb dX11_pledge_41 rfl (lv_at hl 1 rfl) ?_
    obtain ⟨a10, e, hf⟩ := ob hf
    refine q_getR e B hw fd_11_5.1 fd_11_5.2.1 fd_11_5.2.2.1 fd_11_5.2.2.2.1 fd_11_5.2.2.2.2 rfl tw_2_107 dX11_pledge_42 ?_
    obtain ⟨h11, e, hf⟩ := ob hf
    refine q_callVN (As := [.ref a10]) (rest := []) (st1 := []) (c_X4_keep G e) B hw hz hc0 (k_X4_keep e) (by decide) (ci := 4) rfl rfl my_X4_keep mv_X4_keep tw_4_40 ⟨Nat.le_of_ble_eq_true rfl, Nat.le_of_ble_eq_true rfl⟩ ⟨Nat.zero_le _, Nat.zero_le _⟩ rfl hl.1 rfl rfl (Nat.le_of_ble_eq_true rfl) dX11_pledge_45 (fun H locs hw => ?_)
    refine lv_aload_n hx hb dX11_pledge_48 rfl (lv_at hl 1 rfl) ?_
    obtain ⟨a12, e, hf⟩ := ob hf
    refine q_getR e B hw fd_11_4.1 fd_11_4.2.1 fd_11_4.2.2.1 fd_11_4.2.2.2.1 fd_11_4.2.2.2.2 rfl tw_2_106 dX11_pledge_49 ?_
    obtain ⟨x13, e, hf⟩ := ob hf
    refine q_getIN e B hw fd_5_2.1 fd_5_2.2.1 fd_5_2.2.2.1 fd_5_2.2.2.2.1 fd_5_2.2.2.2.2 rfl tw_1_155 dX11_pledge_52 ?_
    obtain ⟨rfl, rfl⟩ := so2 hf
    exact q_iret B hw hz hc0 hr hlk dX11_pledge_55
  · have hf := (if_neg c8).symm.trans hf
    refine lv_bipush (v := 10) hx hb dX11_pledge_29 (by decide) ?_
    refine lv_iload_n hx hb dX11_pledge_31 rfl (lv_at hl 0 rfl) ?_
    refine lv_iadd hx hb dX11_pledge_32 ?_
    obtain ⟨x14, e, hf⟩ := ob hf
    refine q_callS (As := [.int (10 + x6)]) (rest := []) (st1 := [.int x14]) (c_X11_refused G e) B hw hz hc0 my_X11_refused mv_X11_refused tw_2_155 ⟨Nat.le_of_ble_eq_true rfl, Nat.le_of_ble_eq_true rfl⟩ ⟨Nat.zero_le _, Nat.zero_le _⟩ rfl hl.1 rfl rfl (Nat.le_of_ble_eq_true rfl) dX11_pledge_33 (fun H locs hw => ?_)
    obtain ⟨rfl, rfl⟩ := so2 hf
    exact q_iret B hw hz hc0 hr hlk dX11_pledge_36
/-! SecondLife.redeem(I)I -/
def f_X11_redeem (z : Sh) (h : Hp) (v0 : Nat) (v1 : Int32) : Option (Int32 × Hp) :=
  if z.K v0 = 11 then
    (gR z h 11 v0 5).bind fun a1 =>
    (gR z h 11 v0 4).bind fun a2 =>
    (f_X5_copy z h a1 a2).bind fun h3 =>
    (gR z h3 11 v0 11).bind fun a4 =>
    (gR z h3 11 v0 4).bind fun a5 =>
    (f_X2_redeems z h3 a4 a5 v1).bind fun (x6, h7) =>
    if x6 = 0 then
      (gR z h7 11 v0 6).bind fun a9 =>
      (gR z h7 11 v0 5).bind fun a10 =>
      (f_X4_keep z h7 a9 a10).bind fun h11 =>
      (gR z h11 11 v0 4).bind fun a12 =>
      (gI z h11 5 a12 2).bind fun x13 =>
      some (x13, h11)
    else
      (f_X11_refused z h7 (10 + x6)).bind fun x14 =>
      some (x14, h7)
  else none
theorem k_X11_redeem {z : Sh} {h : Hp} {v0 : Nat} {v1 : Int32} {w : Int32 × Hp} (hf : f_X11_redeem z h v0 v1 = some w) : z.K v0 = 11 := by
  unfold f_X11_redeem at hf
  exact (if_some hf).1
set_option maxHeartbeats 4000000 in
theorem c_X11_redeem {l : Launch} {s0 : State} {E : Ev} (G : Gl s0 E) {z : Sh} {h : Hp} {v0 : Nat} {v1 : Int32} {r : Int32} {h' : Hp} (hf : f_X11_redeem z h v0 v1 = some (r, h')) : Ct l s0 E yX11_redeem cX11_redeem 3 (some .int) 3 103 [.ref v0, .int v1] z h h' (some (.int r)) := by
  refine Ct.of G (by decide) (Nat.le_of_ble_eq_true rfl) ?_
  intro p e s m below meth c ls B hw hz hc0 hr hlk hl
  have B : Bd p s0 s E m c cX11_redeem 3 RX11 := B
  have hx := B.1
  have hb := B.2.1
  have hl : lv_has ls 3 [(0, .ref v0), (1, .int v1)] := hl
  unfold f_X11_redeem at hf
  obtain ⟨_, hf⟩ := if_some hf
  refine lv_aload_n hx hb dX11_redeem_0 rfl (lv_at hl 0 rfl) ?_
  obtain ⟨a1, e, hf⟩ := ob hf
  refine q_getR e B hw fd_11_5.1 fd_11_5.2.1 fd_11_5.2.2.1 fd_11_5.2.2.2.1 fd_11_5.2.2.2.2 rfl tw_2_107 dX11_redeem_1 ?_
  refine lv_aload_n hx hb dX11_redeem_4 rfl (lv_at hl 0 rfl) ?_
  obtain ⟨a2, e, hf⟩ := ob hf
  refine q_getR e B hw fd_11_4.1 fd_11_4.2.1 fd_11_4.2.2.1 fd_11_4.2.2.2.1 fd_11_4.2.2.2.2 rfl tw_2_106 dX11_redeem_5 ?_
  obtain ⟨h3, e, hf⟩ := ob hf
  refine q_callVN (As := [.ref a2]) (rest := []) (st1 := []) (c_X5_copy G e) B hw hz hc0 (k_X5_copy e) (by decide) (ci := 5) rfl rfl my_X5_copy mv_X5_copy tw_4_25 ⟨Nat.le_of_ble_eq_true rfl, Nat.le_of_ble_eq_true rfl⟩ ⟨Nat.zero_le _, Nat.zero_le _⟩ rfl hl.1 rfl rfl (Nat.le_of_ble_eq_true rfl) dX11_redeem_8 (fun H locs hw => ?_)
  refine lv_aload_n hx hb dX11_redeem_11 rfl (lv_at hl 0 rfl) ?_
  obtain ⟨a4, e, hf⟩ := ob hf
  refine q_getR e B hw fd_11_11.1 fd_11_11.2.1 fd_11_11.2.2.1 fd_11_11.2.2.2.1 fd_11_11.2.2.2.2 rfl tw_2_113 dX11_redeem_12 ?_
  refine lv_aload_n hx hb dX11_redeem_15 rfl (lv_at hl 0 rfl) ?_
  obtain ⟨a5, e, hf⟩ := ob hf
  refine q_getR e B hw fd_11_4.1 fd_11_4.2.1 fd_11_4.2.2.1 fd_11_4.2.2.2.1 fd_11_4.2.2.2.2 rfl tw_2_106 dX11_redeem_16 ?_
  refine lv_iload_n hx hb dX11_redeem_19 rfl (lv_at hl 1 rfl) ?_
  obtain ⟨⟨x6, h7⟩, e, hf⟩ := ob hf
  refine q_callVN (As := [.ref a5, .int v1]) (rest := []) (st1 := [.int x6]) (c_X2_redeems G e) B hw hz hc0 (k_X2_redeems e) (by decide) (ci := 2) rfl rfl my_X2_redeems mv_X2_redeems tw_4_67 ⟨Nat.le_of_ble_eq_true rfl, Nat.le_of_ble_eq_true rfl⟩ ⟨Nat.zero_le _, Nat.zero_le _⟩ rfl hl.1 rfl rfl (Nat.le_of_ble_eq_true rfl) dX11_redeem_20 (fun H locs hw => ?_)
  refine lv_istore_n (lv' := [(2, .int x6), (0, .ref v0), (1, .int v1)]) hx hb dX11_redeem_23 rfl hl (by decide) rfl (fun ls hl => ?_)
  refine lv_iload_n hx hb dX11_redeem_24 rfl (lv_at hl 0 rfl) ?_
  refine lv_if_eq (tgt := 36) hx hb dX11_redeem_25 (by decide) (fun c8 => ?_) (fun c8 => ?_)
  · have hf := (if_pos c8).symm.trans hf
    refine lv_aload_n hx hb dX11_redeem_36 rfl (lv_at hl 1 rfl) ?_
    obtain ⟨a9, e, hf⟩ := ob hf
    refine q_getR e B hw fd_11_6.1 fd_11_6.2.1 fd_11_6.2.2.1 fd_11_6.2.2.2.1 fd_11_6.2.2.2.2 rfl tw_2_108 dX11_redeem_37 ?_
    refine lv_aload_n hx hb dX11_redeem_40 rfl (lv_at hl 1 rfl) ?_
    obtain ⟨a10, e, hf⟩ := ob hf
    refine q_getR e B hw fd_11_5.1 fd_11_5.2.1 fd_11_5.2.2.1 fd_11_5.2.2.2.1 fd_11_5.2.2.2.2 rfl tw_2_107 dX11_redeem_41 ?_
    obtain ⟨h11, e, hf⟩ := ob hf
    refine q_callVN (As := [.ref a10]) (rest := []) (st1 := []) (c_X4_keep G e) B hw hz hc0 (k_X4_keep e) (by decide) (ci := 4) rfl rfl my_X4_keep mv_X4_keep tw_4_40 ⟨Nat.le_of_ble_eq_true rfl, Nat.le_of_ble_eq_true rfl⟩ ⟨Nat.zero_le _, Nat.zero_le _⟩ rfl hl.1 rfl rfl (Nat.le_of_ble_eq_true rfl) dX11_redeem_44 (fun H locs hw => ?_)
    refine lv_aload_n hx hb dX11_redeem_47 rfl (lv_at hl 1 rfl) ?_
    obtain ⟨a12, e, hf⟩ := ob hf
    refine q_getR e B hw fd_11_4.1 fd_11_4.2.1 fd_11_4.2.2.1 fd_11_4.2.2.2.1 fd_11_4.2.2.2.2 rfl tw_2_106 dX11_redeem_48 ?_
    obtain ⟨x13, e, hf⟩ := ob hf
    refine q_getIN e B hw fd_5_2.1 fd_5_2.2.1 fd_5_2.2.2.1 fd_5_2.2.2.2.1 fd_5_2.2.2.2.2 rfl tw_1_155 dX11_redeem_51 ?_
    obtain ⟨rfl, rfl⟩ := so2 hf
    exact q_iret B hw hz hc0 hr hlk dX11_redeem_54
  · have hf := (if_neg c8).symm.trans hf
    refine lv_bipush (v := 10) hx hb dX11_redeem_28 (by decide) ?_
    refine lv_iload_n hx hb dX11_redeem_30 rfl (lv_at hl 0 rfl) ?_
    refine lv_iadd hx hb dX11_redeem_31 ?_
    obtain ⟨x14, e, hf⟩ := ob hf
    refine q_callS (As := [.int (10 + x6)]) (rest := []) (st1 := [.int x14]) (c_X11_refused G e) B hw hz hc0 my_X11_refused mv_X11_refused tw_2_155 ⟨Nat.le_of_ble_eq_true rfl, Nat.le_of_ble_eq_true rfl⟩ ⟨Nat.zero_le _, Nat.zero_le _⟩ rfl hl.1 rfl rfl (Nat.le_of_ble_eq_true rfl) dX11_redeem_32 (fun H locs hw => ?_)
    obtain ⟨rfl, rfl⟩ := so2 hf
    exact q_iret B hw hz hc0 hr hlk dX11_redeem_35
/-! SecondLife.talent(II)I -/
def f_X11_talent_21 (z : Sh) (h : Hp) : Option (Int32 × Hp) :=
  (f_X11_refused z h 11).bind fun x1 =>
  some (x1, h)
def f_X11_talent (z : Sh) (h : Hp) (v0 : Nat) (v1 : Int32) (v2 : Int32) : Option (Int32 × Hp) :=
  if z.K v0 = 11 then
    (gR z h 11 v0 4).bind fun a1 =>
    (f_X5_has z h a1 v1).bind fun x2 =>
    if x2 = 0 then
      f_X11_talent_21 z h
    else
      if v2 < 0 then
        f_X11_talent_21 z h
      else
        if v2 < 10 then
          (gR z h 11 v0 4).bind fun a6 =>
          (f_X5_part z h a6 v1 6).bind fun x7 =>
          (gR z h 11 v0 6).bind fun a8 =>
          (gR z h 11 v0 4).bind fun a9 =>
          (f_X4_keep z h a8 a9).bind fun h10 =>
          (gR z h10 11 v0 4).bind fun a11 =>
          (f_X5_put z h10 a11 v1 6 v2).bind fun h12 =>
          some (x7, h12)
        else
          f_X11_talent_21 z h
  else none
theorem k_X11_talent {z : Sh} {h : Hp} {v0 : Nat} {v1 : Int32} {v2 : Int32} {w : Int32 × Hp} (hf : f_X11_talent z h v0 v1 v2 = some w) : z.K v0 = 11 := by
  unfold f_X11_talent at hf
  exact (if_some hf).1
set_option maxHeartbeats 4000000 in
theorem w_X11_talent_21 {p : Program} {l : Launch} {e : Env} {s : State} {m : MethodId} {args : Array Value} {below : List Frame} {meth : Method} {c : Code} {s0 : State} {E : Ev} {z : Sh} {r : Int32} {h' : Hp} (G : Gl s0 E) (B : Bd p s0 s E m c cX11_talent 4 RX11) (hz : s0.heap.size ≤ z.sz) (hc0 : s.heap.size + 0 = z.sz) (hr : meth.sig.returnType = (some .int)) (hlk : meth.locks = false) : ∀ (h : Hp) (H : Heap) (locs : List Loc) (ls : Array Slot), Pw s0 s E z h H locs → lv_has ls 4 [] → f_X11_talent_21 z h = some (r, h') → W p l e (rmO 3 103) s m args below meth c H locs 0 0 (Zt below s0 E z h' (some (.int r)) args s 0 0) (F0 m 21 ls []) := by
  have hx := B.1
  have hb := B.2.1
  intro h H locs ls hw hl hf
  unfold f_X11_talent_21 at hf
  refine lv_bipush (v := 11) hx hb dX11_talent_21 (by decide) ?_
  obtain ⟨x1, e, hf⟩ := ob hf
  refine q_callS (As := [.int 11]) (rest := []) (st1 := [.int x1]) (c_X11_refused G e) B hw hz hc0 my_X11_refused mv_X11_refused tw_2_155 ⟨Nat.le_of_ble_eq_true rfl, Nat.le_of_ble_eq_true rfl⟩ ⟨Nat.zero_le _, Nat.zero_le _⟩ rfl hl.1 rfl rfl (Nat.le_of_ble_eq_true rfl) dX11_talent_23 (fun H locs hw => ?_)
  obtain ⟨rfl, rfl⟩ := so2 hf
  exact q_iret B hw hz hc0 hr hlk dX11_talent_26
set_option maxHeartbeats 4000000 in
theorem c_X11_talent {l : Launch} {s0 : State} {E : Ev} (G : Gl s0 E) {z : Sh} {h : Hp} {v0 : Nat} {v1 : Int32} {v2 : Int32} {r : Int32} {h' : Hp} (hf : f_X11_talent z h v0 v1 v2 = some (r, h')) : Ct l s0 E yX11_talent cX11_talent 4 (some .int) 3 103 [.ref v0, .int v1, .int v2] z h h' (some (.int r)) := by
  refine Ct.of G (by decide) (Nat.le_of_ble_eq_true rfl) ?_
  intro p e s m below meth c ls B hw hz hc0 hr hlk hl
  have B : Bd p s0 s E m c cX11_talent 4 RX11 := B
  have hx := B.1
  have hb := B.2.1
  have hl : lv_has ls 4 [(0, .ref v0), (1, .int v1), (2, .int v2)] := hl
  unfold f_X11_talent at hf
  obtain ⟨_, hf⟩ := if_some hf
  refine lv_aload_n hx hb dX11_talent_0 rfl (lv_at hl 0 rfl) ?_
  obtain ⟨a1, e, hf⟩ := ob hf
  refine q_getR e B hw fd_11_4.1 fd_11_4.2.1 fd_11_4.2.2.1 fd_11_4.2.2.2.1 fd_11_4.2.2.2.2 rfl tw_2_106 dX11_talent_1 ?_
  refine lv_iload_n hx hb dX11_talent_4 rfl (lv_at hl 1 rfl) ?_
  obtain ⟨x2, e, hf⟩ := ob hf
  refine q_callVN (As := [.int v1]) (rest := []) (st1 := [.int x2]) (c_X5_has G e) B hw hz hc0 (k_X5_has e) (by decide) (ci := 5) rfl rfl my_X5_has mv_X5_has tw_3_210 ⟨Nat.le_of_ble_eq_true rfl, Nat.le_of_ble_eq_true rfl⟩ ⟨Nat.zero_le _, Nat.zero_le _⟩ rfl hl.1 rfl rfl (Nat.le_of_ble_eq_true rfl) dX11_talent_5 (fun H locs hw => ?_)
  refine lv_if_eq (tgt := 21) hx hb dX11_talent_8 (by decide) (fun c3 => ?_) (fun c3 => ?_)
  · have hf := (if_pos c3).symm.trans hf
    exact w_X11_talent_21 G B hz hc0 hr hlk  h _ _ _ hw (lv_sub hl [] rfl) hf
  · have hf := (if_neg c3).symm.trans hf
    refine lv_iload_n hx hb dX11_talent_11 rfl (lv_at hl 2 rfl) ?_
    refine lv_if_lt (tgt := 21) hx hb dX11_talent_12 (by decide) (fun c4 => ?_) (fun c4 => ?_)
    · have hf := (if_pos c4).symm.trans hf
      exact w_X11_talent_21 G B hz hc0 hr hlk  h _ _ _ hw (lv_sub hl [] rfl) hf
    · have hf := (if_neg c4).symm.trans hf
      refine lv_iload_n hx hb dX11_talent_15 rfl (lv_at hl 2 rfl) ?_
      refine lv_bipush (v := 10) hx hb dX11_talent_16 (by decide) ?_
      refine lv_icmp_lt (tgt := 27) hx hb dX11_talent_18 (by decide) (fun c5 => ?_) (fun c5 => ?_)
      · have hf := (if_pos c5).symm.trans hf
        refine lv_aload_n hx hb dX11_talent_27 rfl (lv_at hl 0 rfl) ?_
        obtain ⟨a6, e, hf⟩ := ob hf
        refine q_getR e B hw fd_11_4.1 fd_11_4.2.1 fd_11_4.2.2.1 fd_11_4.2.2.2.1 fd_11_4.2.2.2.2 rfl tw_2_106 dX11_talent_28 ?_
        refine lv_iload_n hx hb dX11_talent_31 rfl (lv_at hl 1 rfl) ?_
        refine lv_bipush (v := 6) hx hb dX11_talent_32 (by decide) ?_
        obtain ⟨x7, e, hf⟩ := ob hf
        refine q_callVN (As := [.int v1, .int 6]) (rest := []) (st1 := [.int x7]) (c_X5_part G e) B hw hz hc0 (k_X5_part e) (by decide) (ci := 5) rfl rfl my_X5_part mv_X5_part tw_3_214 ⟨Nat.le_of_ble_eq_true rfl, Nat.le_of_ble_eq_true rfl⟩ ⟨Nat.zero_le _, Nat.zero_le _⟩ rfl hl.1 rfl rfl (Nat.le_of_ble_eq_true rfl) dX11_talent_34 (fun H locs hw => ?_)
        refine lv_istore_n (lv' := [(3, .int x7), (0, .ref v0), (1, .int v1), (2, .int v2)]) hx hb dX11_talent_37 rfl hl (by decide) rfl (fun ls hl => ?_)
        refine lv_aload_n hx hb dX11_talent_38 rfl (lv_at hl 1 rfl) ?_
        obtain ⟨a8, e, hf⟩ := ob hf
        refine q_getR e B hw fd_11_6.1 fd_11_6.2.1 fd_11_6.2.2.1 fd_11_6.2.2.2.1 fd_11_6.2.2.2.2 rfl tw_2_108 dX11_talent_39 ?_
        refine lv_aload_n hx hb dX11_talent_42 rfl (lv_at hl 1 rfl) ?_
        obtain ⟨a9, e, hf⟩ := ob hf
        refine q_getR e B hw fd_11_4.1 fd_11_4.2.1 fd_11_4.2.2.1 fd_11_4.2.2.2.1 fd_11_4.2.2.2.2 rfl tw_2_106 dX11_talent_43 ?_
        obtain ⟨h10, e, hf⟩ := ob hf
        refine q_callVN (As := [.ref a9]) (rest := []) (st1 := []) (c_X4_keep G e) B hw hz hc0 (k_X4_keep e) (by decide) (ci := 4) rfl rfl my_X4_keep mv_X4_keep tw_4_40 ⟨Nat.le_of_ble_eq_true rfl, Nat.le_of_ble_eq_true rfl⟩ ⟨Nat.zero_le _, Nat.zero_le _⟩ rfl hl.1 rfl rfl (Nat.le_of_ble_eq_true rfl) dX11_talent_46 (fun H locs hw => ?_)
        refine lv_aload_n hx hb dX11_talent_49 rfl (lv_at hl 1 rfl) ?_
        obtain ⟨a11, e, hf⟩ := ob hf
        refine q_getR e B hw fd_11_4.1 fd_11_4.2.1 fd_11_4.2.2.1 fd_11_4.2.2.2.1 fd_11_4.2.2.2.2 rfl tw_2_106 dX11_talent_50 ?_
        refine lv_iload_n hx hb dX11_talent_53 rfl (lv_at hl 2 rfl) ?_
        refine lv_bipush (v := 6) hx hb dX11_talent_54 (by decide) ?_
        refine lv_iload_n hx hb dX11_talent_56 rfl (lv_at hl 3 rfl) ?_
        obtain ⟨h12, e, hf⟩ := ob hf
        refine q_callVN (As := [.int v1, .int 6, .int v2]) (rest := []) (st1 := []) (c_X5_put G e) B hw hz hc0 (k_X5_put e) (by decide) (ci := 5) rfl rfl my_X5_put mv_X5_put tw_4_75 ⟨Nat.le_of_ble_eq_true rfl, Nat.le_of_ble_eq_true rfl⟩ ⟨Nat.zero_le _, Nat.zero_le _⟩ rfl hl.1 rfl rfl (Nat.le_of_ble_eq_true rfl) dX11_talent_57 (fun H locs hw => ?_)
        refine lv_iload_n hx hb dX11_talent_60 rfl (lv_at hl 0 rfl) ?_
        obtain ⟨rfl, rfl⟩ := so2 hf
        exact q_iret B hw hz hc0 hr hlk dX11_talent_61
      · have hf := (if_neg c5).symm.trans hf
        exact w_X11_talent_21 G B hz hc0 hr hlk  h _ _ _ hw (lv_sub hl [] rfl) hf
/-! SecondLife.undo(I)I -/
def f_X11_undo (z : Sh) (h : Hp) (v0 : Nat) (v1 : Int32) : Option (Int32 × Hp) :=
  if z.K v0 = 11 then
    (gR z h 11 v0 6).bind fun a1 =>
    (gR z h 11 v0 4).bind fun a2 =>
    (f_X4_bringBack z h a1 v1 a2).bind fun (x3, h4) =>
    if x3 = 0 then
      (f_X11_refused z h4 3).bind fun x8 =>
      some (x8, h4)
    else
      (gR z h4 11 v0 6).bind fun a6 =>
      (gI z h4 4 a6 2).bind fun x7 =>
      some (x7, h4)
  else none
theorem k_X11_undo {z : Sh} {h : Hp} {v0 : Nat} {v1 : Int32} {w : Int32 × Hp} (hf : f_X11_undo z h v0 v1 = some w) : z.K v0 = 11 := by
  unfold f_X11_undo at hf
  exact (if_some hf).1
set_option maxHeartbeats 4000000 in
theorem c_X11_undo {l : Launch} {s0 : State} {E : Ev} (G : Gl s0 E) {z : Sh} {h : Hp} {v0 : Nat} {v1 : Int32} {r : Int32} {h' : Hp} (hf : f_X11_undo z h v0 v1 = some (r, h')) : Ct l s0 E yX11_undo cX11_undo 2 (some .int) 3 105 [.ref v0, .int v1] z h h' (some (.int r)) := by
  refine Ct.of G (by decide) (Nat.le_of_ble_eq_true rfl) ?_
  intro p e s m below meth c ls B hw hz hc0 hr hlk hl
  have B : Bd p s0 s E m c cX11_undo 2 RX11 := B
  have hx := B.1
  have hb := B.2.1
  have hl : lv_has ls 2 [(0, .ref v0), (1, .int v1)] := hl
  unfold f_X11_undo at hf
  obtain ⟨_, hf⟩ := if_some hf
  refine lv_aload_n hx hb dX11_undo_0 rfl (lv_at hl 0 rfl) ?_
  obtain ⟨a1, e, hf⟩ := ob hf
  refine q_getR e B hw fd_11_6.1 fd_11_6.2.1 fd_11_6.2.2.1 fd_11_6.2.2.2.1 fd_11_6.2.2.2.2 rfl tw_2_108 dX11_undo_1 ?_
  refine lv_iload_n hx hb dX11_undo_4 rfl (lv_at hl 1 rfl) ?_
  refine lv_aload_n hx hb dX11_undo_5 rfl (lv_at hl 0 rfl) ?_
  obtain ⟨a2, e, hf⟩ := ob hf
  refine q_getR e B hw fd_11_4.1 fd_11_4.2.1 fd_11_4.2.2.1 fd_11_4.2.2.2.1 fd_11_4.2.2.2.2 rfl tw_2_106 dX11_undo_6 ?_
  obtain ⟨⟨x3, h4⟩, e, hf⟩ := ob hf
  refine q_callVN (As := [.int v1, .ref a2]) (rest := []) (st1 := [.int x3]) (c_X4_bringBack G e) B hw hz hc0 (k_X4_bringBack e) (by decide) (ci := 4) rfl rfl my_X4_bringBack mv_X4_bringBack tw_4_80 ⟨Nat.le_of_ble_eq_true rfl, Nat.le_of_ble_eq_true rfl⟩ ⟨Nat.zero_le _, Nat.zero_le _⟩ rfl hl.1 rfl rfl (Nat.le_of_ble_eq_true rfl) dX11_undo_9 (fun H locs hw => ?_)
  refine lv_if_ne (tgt := 20) hx hb dX11_undo_12 (by decide) (fun c5 => ?_) (fun c5 => ?_)
  · have hf := (if_neg c5).symm.trans hf
    refine lv_aload_n hx hb dX11_undo_20 rfl (lv_at hl 0 rfl) ?_
    obtain ⟨a6, e, hf⟩ := ob hf
    refine q_getR e B hw fd_11_6.1 fd_11_6.2.1 fd_11_6.2.2.1 fd_11_6.2.2.2.1 fd_11_6.2.2.2.2 rfl tw_2_108 dX11_undo_21 ?_
    obtain ⟨x7, e, hf⟩ := ob hf
    refine q_getIN e B hw fd_4_2.1 fd_4_2.2.1 fd_4_2.2.2.1 fd_4_2.2.2.2.1 fd_4_2.2.2.2.2 rfl tw_1_175 dX11_undo_24 ?_
    obtain ⟨rfl, rfl⟩ := so2 hf
    exact q_iret B hw hz hc0 hr hlk dX11_undo_27
  · have hf := (if_pos c5).symm.trans hf
    refine lv_iconst (v := 3) hx hb dX11_undo_15 (by decide) ?_
    obtain ⟨x8, e, hf⟩ := ob hf
    refine q_callS (As := [.int 3]) (rest := []) (st1 := [.int x8]) (c_X11_refused G e) B hw hz hc0 my_X11_refused mv_X11_refused tw_2_155 ⟨Nat.le_of_ble_eq_true rfl, Nat.le_of_ble_eq_true rfl⟩ ⟨Nat.zero_le _, Nat.zero_le _⟩ rfl hl.1 rfl rfl (Nat.le_of_ble_eq_true rfl) dX11_undo_16 (fun H locs hw => ?_)
    obtain ⟨rfl, rfl⟩ := so2 hf
    exact q_iret B hw hz hc0 hr hlk dX11_undo_19
/-! SecondLife.run(I)I -/
def f_X11_run (n : Nat) (z : Sh) (h : Hp) (v0 : Nat) (v1 : Int32) : Option (Int32) :=
  if z.K v0 = 11 then
    (gR z h 11 v0 4).bind fun a1 =>
    (f_X5_isSet z h a1 v1).bind fun x2 =>
    if x2 = 0 then
      (f_X11_refused z h 3).bind fun x4 =>
      some x4
    else
      (gR z h 11 v0 4).bind fun a5 =>
      (f_X5_runOf n z h a5 v1 0).bind fun x6 =>
      some x6
  else none
theorem k_X11_run {n : Nat} {z : Sh} {h : Hp} {v0 : Nat} {v1 : Int32} {w : Int32} (hf : f_X11_run n z h v0 v1 = some w) : z.K v0 = 11 := by
  unfold f_X11_run at hf
  exact (if_some hf).1
set_option maxHeartbeats 4000000 in
theorem c_X11_run {l : Launch} {s0 : State} {E : Ev} (G : Gl s0 E) {n : Nat} {z : Sh} {h : Hp} {v0 : Nat} {v1 : Int32} {r : Int32} (hf : f_X11_run n z h v0 v1 = some r) : Ct l s0 E yX11_run cX11_run 2 (some .int) 3 73 [.ref v0, .int v1] z h h (some (.int r)) := by
  refine Ct.of G (by decide) (Nat.le_of_ble_eq_true rfl) ?_
  intro p e s m below meth c ls B hw hz hc0 hr hlk hl
  have B : Bd p s0 s E m c cX11_run 2 RX11 := B
  have hx := B.1
  have hb := B.2.1
  have hl : lv_has ls 2 [(0, .ref v0), (1, .int v1)] := hl
  unfold f_X11_run at hf
  obtain ⟨_, hf⟩ := if_some hf
  refine lv_aload_n hx hb dX11_run_0 rfl (lv_at hl 0 rfl) ?_
  obtain ⟨a1, e, hf⟩ := ob hf
  refine q_getR e B hw fd_11_4.1 fd_11_4.2.1 fd_11_4.2.2.1 fd_11_4.2.2.2.1 fd_11_4.2.2.2.2 rfl tw_2_106 dX11_run_1 ?_
  refine lv_iload_n hx hb dX11_run_4 rfl (lv_at hl 1 rfl) ?_
  obtain ⟨x2, e, hf⟩ := ob hf
  refine q_callVN (As := [.int v1]) (rest := []) (st1 := [.int x2]) (c_X5_isSet G e) B hw hz hc0 (k_X5_isSet e) (by decide) (ci := 5) rfl rfl my_X5_isSet mv_X5_isSet tw_5_173 ⟨Nat.le_of_ble_eq_true rfl, Nat.le_of_ble_eq_true rfl⟩ ⟨Nat.zero_le _, Nat.zero_le _⟩ rfl hl.1 rfl rfl (Nat.le_of_ble_eq_true rfl) dX11_run_5 (fun H locs hw => ?_)
  refine lv_if_eq (tgt := 23) hx hb dX11_run_8 (by decide) (fun c3 => ?_) (fun c3 => ?_)
  · have hf := (if_pos c3).symm.trans hf
    refine lv_iconst (v := 3) hx hb dX11_run_23 (by decide) ?_
    obtain ⟨x4, e, hf⟩ := ob hf
    refine q_callS (As := [.int 3]) (rest := []) (st1 := [.int x4]) (c_X11_refused G e) B hw hz hc0 my_X11_refused mv_X11_refused tw_2_155 ⟨Nat.le_of_ble_eq_true rfl, Nat.le_of_ble_eq_true rfl⟩ ⟨Nat.zero_le _, Nat.zero_le _⟩ rfl hl.1 rfl rfl (Nat.le_of_ble_eq_true rfl) dX11_run_24 (fun H locs hw => ?_)
    obtain rfl := so hf
    exact q_iret B hw hz hc0 hr hlk dX11_run_27
  · have hf := (if_neg c3).symm.trans hf
    refine lv_aload_n hx hb dX11_run_11 rfl (lv_at hl 0 rfl) ?_
    obtain ⟨a5, e, hf⟩ := ob hf
    refine q_getR e B hw fd_11_4.1 fd_11_4.2.1 fd_11_4.2.2.1 fd_11_4.2.2.2.1 fd_11_4.2.2.2.2 rfl tw_2_106 dX11_run_12 ?_
    refine lv_iload_n hx hb dX11_run_15 rfl (lv_at hl 1 rfl) ?_
    refine lv_iconst (v := 0) hx hb dX11_run_16 (by decide) ?_
    obtain ⟨x6, e, hf⟩ := ob hf
    refine q_callVN (As := [.int v1, .int 0]) (rest := []) (st1 := [.int x6]) (c_X5_runOf G e) B hw hz hc0 (k_X5_runOf e) (by decide) (ci := 5) rfl rfl my_X5_runOf mv_X5_runOf tw_5_181 ⟨Nat.le_of_ble_eq_true rfl, Nat.le_of_ble_eq_true rfl⟩ ⟨Nat.zero_le _, Nat.zero_le _⟩ rfl hl.1 rfl rfl (Nat.le_of_ble_eq_true rfl) dX11_run_17 (fun H locs hw => ?_)
    refine lv_goto (tgt := 27) hx hb dX11_run_20 (by decide) ?_
    obtain rfl := so hf
    exact q_iret B hw hz hc0 hr hlk dX11_run_27
/-! SecondLife.rounds(I)I -/
def f_X11_rounds (n : Nat) (z : Sh) (h : Hp) (v0 : Nat) (v1 : Int32) : Option (Int32) :=
  if z.K v0 = 11 then
    (gR z h 11 v0 4).bind fun a1 =>
    (f_X5_isSet z h a1 v1).bind fun x2 =>
    if x2 = 0 then
      (f_X11_refused z h 3).bind fun x4 =>
      some x4
    else
      (gR z h 11 v0 4).bind fun a5 =>
      (f_X5_roundsOf n z h a5 v1).bind fun x6 =>
      some x6
  else none
theorem k_X11_rounds {n : Nat} {z : Sh} {h : Hp} {v0 : Nat} {v1 : Int32} {w : Int32} (hf : f_X11_rounds n z h v0 v1 = some w) : z.K v0 = 11 := by
  unfold f_X11_rounds at hf
  exact (if_some hf).1
set_option maxHeartbeats 4000000 in
theorem c_X11_rounds {l : Launch} {s0 : State} {E : Ev} (G : Gl s0 E) {n : Nat} {z : Sh} {h : Hp} {v0 : Nat} {v1 : Int32} {r : Int32} (hf : f_X11_rounds n z h v0 v1 = some r) : Ct l s0 E yX11_rounds cX11_rounds 2 (some .int) 3 72 [.ref v0, .int v1] z h h (some (.int r)) := by
  refine Ct.of G (by decide) (Nat.le_of_ble_eq_true rfl) ?_
  intro p e s m below meth c ls B hw hz hc0 hr hlk hl
  have B : Bd p s0 s E m c cX11_rounds 2 RX11 := B
  have hx := B.1
  have hb := B.2.1
  have hl : lv_has ls 2 [(0, .ref v0), (1, .int v1)] := hl
  unfold f_X11_rounds at hf
  obtain ⟨_, hf⟩ := if_some hf
  refine lv_aload_n hx hb dX11_rounds_0 rfl (lv_at hl 0 rfl) ?_
  obtain ⟨a1, e, hf⟩ := ob hf
  refine q_getR e B hw fd_11_4.1 fd_11_4.2.1 fd_11_4.2.2.1 fd_11_4.2.2.2.1 fd_11_4.2.2.2.2 rfl tw_2_106 dX11_rounds_1 ?_
  refine lv_iload_n hx hb dX11_rounds_4 rfl (lv_at hl 1 rfl) ?_
  obtain ⟨x2, e, hf⟩ := ob hf
  refine q_callVN (As := [.int v1]) (rest := []) (st1 := [.int x2]) (c_X5_isSet G e) B hw hz hc0 (k_X5_isSet e) (by decide) (ci := 5) rfl rfl my_X5_isSet mv_X5_isSet tw_5_173 ⟨Nat.le_of_ble_eq_true rfl, Nat.le_of_ble_eq_true rfl⟩ ⟨Nat.zero_le _, Nat.zero_le _⟩ rfl hl.1 rfl rfl (Nat.le_of_ble_eq_true rfl) dX11_rounds_5 (fun H locs hw => ?_)
  refine lv_if_eq (tgt := 22) hx hb dX11_rounds_8 (by decide) (fun c3 => ?_) (fun c3 => ?_)
  · have hf := (if_pos c3).symm.trans hf
    refine lv_iconst (v := 3) hx hb dX11_rounds_22 (by decide) ?_
    obtain ⟨x4, e, hf⟩ := ob hf
    refine q_callS (As := [.int 3]) (rest := []) (st1 := [.int x4]) (c_X11_refused G e) B hw hz hc0 my_X11_refused mv_X11_refused tw_2_155 ⟨Nat.le_of_ble_eq_true rfl, Nat.le_of_ble_eq_true rfl⟩ ⟨Nat.zero_le _, Nat.zero_le _⟩ rfl hl.1 rfl rfl (Nat.le_of_ble_eq_true rfl) dX11_rounds_23 (fun H locs hw => ?_)
    obtain rfl := so hf
    exact q_iret B hw hz hc0 hr hlk dX11_rounds_26
  · have hf := (if_neg c3).symm.trans hf
    refine lv_aload_n hx hb dX11_rounds_11 rfl (lv_at hl 0 rfl) ?_
    obtain ⟨a5, e, hf⟩ := ob hf
    refine q_getR e B hw fd_11_4.1 fd_11_4.2.1 fd_11_4.2.2.1 fd_11_4.2.2.2.1 fd_11_4.2.2.2.2 rfl tw_2_106 dX11_rounds_12 ?_
    refine lv_iload_n hx hb dX11_rounds_15 rfl (lv_at hl 1 rfl) ?_
    obtain ⟨x6, e, hf⟩ := ob hf
    refine q_callVN (As := [.int v1]) (rest := []) (st1 := [.int x6]) (c_X5_roundsOf G e) B hw hz hc0 (k_X5_roundsOf e) (by decide) (ci := 5) rfl rfl my_X5_roundsOf mv_X5_roundsOf tw_5_199 ⟨Nat.le_of_ble_eq_true rfl, Nat.le_of_ble_eq_true rfl⟩ ⟨Nat.zero_le _, Nat.zero_le _⟩ rfl hl.1 rfl rfl (Nat.le_of_ble_eq_true rfl) dX11_rounds_16 (fun H locs hw => ?_)
    refine lv_goto (tgt := 26) hx hb dX11_rounds_19 (by decide) ?_
    obtain rfl := so hf
    exact q_iret B hw hz hc0 hr hlk dX11_rounds_26
/-! SecondLife.spark(I)I -/
def f_X11_spark_72 (n : Nat) (z : Sh) (h : Hp) (k24 : Nat → Int32 → Int32 → Int32 → Int32 → Option (Int32)) (v0 : Nat) (v1 : Int32) (v2 : Int32) (v3 : Int32) (v4 : Int32) : Option (Int32) :=
  (some (v4 + 1)).bind fun x1 =>
  k24 v0 v1 v2 v3 x1
def f_X11_spark_24 (n : Nat) (z : Sh) (h : Hp) : Nat → Nat → Int32 → Int32 → Int32 → Int32 → Option (Int32)
  | 0, _, _, _, _, _ => none
  | i + 1, v0, v1, v2, v3, v4 =>
    (gR z h 11 v0 4).bind fun a1 =>
    (f_X5_everybody z h a1).bind fun x2 =>
    if x2 < v4 then
      some v2
    else
      (f_J6_bitCount_0f7a4 z h v4).bind fun x4 =>
      if v3 ≤ x4 then
        f_X11_spark_72 n z h (f_X11_spark_24 n z h i) v0 v1 v2 v3 v4
      else
        (gR z h 11 v0 4).bind fun a6 =>
        (f_X5_runOf n z h a6 v4 0).bind fun x7 =>
        (f_J6_bitCount_0f7a4 z h x7).bind fun x8 =>
        if x8 < v1 then
          f_X11_spark_72 n z h (f_X11_spark_24 n z h i) v0 v1 v2 v3 v4
        else
          f_X11_spark_72 n z h (f_X11_spark_24 n z h i) v0 v1 v4 x4 v4
def f_X11_spark_11 (n : Nat) (z : Sh) (h : Hp) : Option (Int32) :=
  (f_X11_refused z h 3).bind fun x1 =>
  some x1
def f_X11_spark (n : Nat) (z : Sh) (h : Hp) (v0 : Nat) (v1 : Int32) : Option (Int32) :=
  if z.K v0 = 11 then
    if v1 < 1 then
      f_X11_spark_11 n z h
    else
      if v1 ≤ 6 then
        f_X11_spark_24 n z h n v0 v1 (-1) 7 0
      else
        f_X11_spark_11 n z h
  else none
theorem k_X11_spark {n : Nat} {z : Sh} {h : Hp} {v0 : Nat} {v1 : Int32} {w : Int32} (hf : f_X11_spark n z h v0 v1 = some w) : z.K v0 = 11 := by
  unfold f_X11_spark at hf
  exact (if_some hf).1
set_option maxHeartbeats 4000000 in
theorem w_X11_spark_72 {p : Program} {l : Launch} {e : Env} {s : State} {m : MethodId} {args : Array Value} {below : List Frame} {meth : Method} {c : Code} {s0 : State} {E : Ev} {z : Sh} {h : Hp} {n : Nat} {k24 : Nat → Int32 → Int32 → Int32 → Int32 → Option (Int32)} {r : Int32} (G : Gl s0 E) (B : Bd p s0 s E m c cX11_spark 6 RX11) (hz : s0.heap.size ≤ z.sz) (hc0 : s.heap.size + 0 = z.sz) (hr : meth.sig.returnType = (some .int)) (hlk : meth.locks = false) (hk24 : ∀ (v0 : Nat) (v1 : Int32) (v2 : Int32) (v3 : Int32) (v4 : Int32) (H : Heap) (locs : List Loc) (ls : Array Slot), Pw s0 s E z h H locs → lv_has ls 6 [(0, .ref v0), (1, .int v1), (2, .int v2), (3, .int v3), (4, .int v4)] → k24 v0 v1 v2 v3 v4 = some r → W p l e (rmO 3 73) s m args below meth c H locs 0 0 (Zt below s0 E z h (some (.int r)) args s 0 0) (F0 m 24 ls [])) : ∀ (v0 : Nat) (v1 : Int32) (v2 : Int32) (v3 : Int32) (v4 : Int32) (H : Heap) (locs : List Loc) (ls : Array Slot), Pw s0 s E z h H locs → lv_has ls 6 [(0, .ref v0), (1, .int v1), (2, .int v2), (3, .int v3), (4, .int v4)] → f_X11_spark_72 n z h k24 v0 v1 v2 v3 v4 = some r → W p l e (rmO 3 73) s m args below meth c H locs 0 0 (Zt below s0 E z h (some (.int r)) args s 0 0) (F0 m 72 ls []) := by
  have hx := B.1
  have hb := B.2.1
  intro v0 v1 v2 v3 v4 H locs ls hw hl hf
  unfold f_X11_spark_72 at hf
  obtain ⟨x1, e, hf⟩ := ob hf
  refine lv_iinc (v := x1) (lv' := [(4, .int x1), (0, .ref v0), (1, .int v1), (2, .int v2), (3, .int v3)]) hx hb dX11_spark_72 hl (k := 4) rfl (Option.some.inj e) (by decide) rfl (fun ls hl => ?_)
  refine lv_goto (tgt := 24) hx hb dX11_spark_75 (by decide) ?_
  exact hk24 v0 v1 v2 v3 x1 _ _ _ hw (lv_sub hl [1, 2, 3, 4, 0] rfl) hf
set_option maxHeartbeats 4000000 in
theorem w_X11_spark_24 {p : Program} {l : Launch} {e : Env} {s : State} {m : MethodId} {args : Array Value} {below : List Frame} {meth : Method} {c : Code} {s0 : State} {E : Ev} {z : Sh} {h : Hp} {n : Nat} {r : Int32} (G : Gl s0 E) (B : Bd p s0 s E m c cX11_spark 6 RX11) (hz : s0.heap.size ≤ z.sz) (hc0 : s.heap.size + 0 = z.sz) (hr : meth.sig.returnType = (some .int)) (hlk : meth.locks = false) : ∀ (i : Nat), ∀ (v0 : Nat) (v1 : Int32) (v2 : Int32) (v3 : Int32) (v4 : Int32) (H : Heap) (locs : List Loc) (ls : Array Slot), Pw s0 s E z h H locs → lv_has ls 6 [(0, .ref v0), (1, .int v1), (2, .int v2), (3, .int v3), (4, .int v4)] → f_X11_spark_24 n z h i v0 v1 v2 v3 v4 = some r → W p l e (rmO 3 73) s m args below meth c H locs 0 0 (Zt below s0 E z h (some (.int r)) args s 0 0) (F0 m 24 ls []) := by
  have hx := B.1
  have hb := B.2.1
  intro i
  induction i with
  | zero =>
    intro v0 v1 v2 v3 v4 H locs ls hw hl hf
    have hf := (f_X11_spark_24.eq_1 ..).symm.trans hf
    cases hf
  | succ i ih =>
    intro v0 v1 v2 v3 v4 H locs ls hw hl hf
    have hf := (f_X11_spark_24.eq_2 ..).symm.trans hf
    refine lv_iload hx hb dX11_spark_24 (lv_at hl 4 rfl) ?_
    refine lv_aload_n hx hb dX11_spark_26 rfl (lv_at hl 0 rfl) ?_
    obtain ⟨a1, e, hf⟩ := ob hf
    refine q_getR e B hw fd_11_4.1 fd_11_4.2.1 fd_11_4.2.2.1 fd_11_4.2.2.2.1 fd_11_4.2.2.2.2 rfl tw_2_106 dX11_spark_27 ?_
    obtain ⟨x2, e, hf⟩ := ob hf
    refine q_callVN (As := []) (rest := [.int v4]) (st1 := [.int x2, .int v4]) (c_X5_everybody G e) B hw hz hc0 (k_X5_everybody e) (by decide) (ci := 5) rfl rfl my_X5_everybody mv_X5_everybody tw_5_207 ⟨Nat.le_of_ble_eq_true rfl, Nat.le_of_ble_eq_true rfl⟩ ⟨Nat.zero_le _, Nat.zero_le _⟩ rfl hl.1 rfl rfl (Nat.le_of_ble_eq_true rfl) dX11_spark_30 (fun H locs hw => ?_)
    refine lv_icmp_gt (tgt := 78) hx hb dX11_spark_33 (by decide) (fun c3 => ?_) (fun c3 => ?_)
    · have hf := (if_pos c3).symm.trans hf
      refine lv_iload_n hx hb dX11_spark_78 rfl (lv_at hl 2 rfl) ?_
      obtain rfl := so hf
      exact q_iret B hw hz hc0 hr hlk dX11_spark_79
    · have hf := (if_neg c3).symm.trans hf
      refine lv_iload hx hb dX11_spark_36 (lv_at hl 4 rfl) ?_
      obtain ⟨x4, e, hf⟩ := ob hf
      refine q_callS (As := [.int v4]) (rest := []) (st1 := [.int x4]) (c_J6_bitCount_0f7a4 G e) B hw hz hc0 my_J6_bitCount_0f7a4 mv_J6_bitCount_0f7a4 tw_5_208 ⟨Nat.le_of_ble_eq_true rfl, Nat.le_of_ble_eq_true rfl⟩ ⟨Nat.zero_le _, Nat.zero_le _⟩ rfl hl.1 rfl rfl (Nat.le_of_ble_eq_true rfl) dX11_spark_38 (fun H locs hw => ?_)
      refine lv_istore (lv' := [(5, .int x4), (0, .ref v0), (1, .int v1), (2, .int v2), (3, .int v3), (4, .int v4)]) hx hb dX11_spark_41 hl (by decide) rfl (fun ls hl => ?_)
      refine lv_iload hx hb dX11_spark_43 (lv_at hl 0 rfl) ?_
      refine lv_iload_n hx hb dX11_spark_45 rfl (lv_at hl 4 rfl) ?_
      refine lv_icmp_ge (tgt := 72) hx hb dX11_spark_46 (by decide) (fun c5 => ?_) (fun c5 => ?_)
      · have hf := (if_pos c5).symm.trans hf
        exact w_X11_spark_72 G B hz hc0 hr hlk ih v0 v1 v2 v3 v4 _ _ _ hw (lv_sub hl [1, 2, 3, 4, 5] rfl) hf
      · have hf := (if_neg c5).symm.trans hf
        refine lv_aload_n hx hb dX11_spark_49 rfl (lv_at hl 1 rfl) ?_
        obtain ⟨a6, e, hf⟩ := ob hf
        refine q_getR e B hw fd_11_4.1 fd_11_4.2.1 fd_11_4.2.2.1 fd_11_4.2.2.2.1 fd_11_4.2.2.2.2 rfl tw_2_106 dX11_spark_50 ?_
        refine lv_iload hx hb dX11_spark_53 (lv_at hl 5 rfl) ?_
        refine lv_iconst (v := 0) hx hb dX11_spark_55 (by decide) ?_
        obtain ⟨x7, e, hf⟩ := ob hf
        refine q_callVN (As := [.int v4, .int 0]) (rest := []) (st1 := [.int x7]) (c_X5_runOf G e) B hw hz hc0 (k_X5_runOf e) (by decide) (ci := 5) rfl rfl my_X5_runOf mv_X5_runOf tw_5_181 ⟨Nat.le_of_ble_eq_true rfl, Nat.le_of_ble_eq_true rfl⟩ ⟨Nat.zero_le _, Nat.zero_le _⟩ rfl hl.1 rfl rfl (Nat.le_of_ble_eq_true rfl) dX11_spark_56 (fun H locs hw => ?_)
        obtain ⟨x8, e, hf⟩ := ob hf
        refine q_callS (As := [.int x7]) (rest := []) (st1 := [.int x8]) (c_J6_bitCount_0f7a4 G e) B hw hz hc0 my_J6_bitCount_0f7a4 mv_J6_bitCount_0f7a4 tw_5_208 ⟨Nat.le_of_ble_eq_true rfl, Nat.le_of_ble_eq_true rfl⟩ ⟨Nat.zero_le _, Nat.zero_le _⟩ rfl hl.1 rfl rfl (Nat.le_of_ble_eq_true rfl) dX11_spark_59 (fun H locs hw => ?_)
        refine lv_iload_n hx hb dX11_spark_62 rfl (lv_at hl 2 rfl) ?_
        refine lv_icmp_lt (tgt := 72) hx hb dX11_spark_63 (by decide) (fun c9 => ?_) (fun c9 => ?_)
        · have hf := (if_pos c9).symm.trans hf
          exact w_X11_spark_72 G B hz hc0 hr hlk ih v0 v1 v2 v3 v4 _ _ _ hw (lv_sub hl [1, 2, 3, 4, 5] rfl) hf
        · have hf := (if_neg c9).symm.trans hf
          refine lv_iload hx hb dX11_spark_66 (lv_at hl 0 rfl) ?_
          refine lv_istore_n (lv' := [(3, .int x4), (5, .int x4), (0, .ref v0), (1, .int v1), (2, .int v2), (4, .int v4)]) hx hb dX11_spark_68 rfl hl (by decide) rfl (fun ls hl => ?_)
          refine lv_iload hx hb dX11_spark_69 (lv_at hl 5 rfl) ?_
          refine lv_istore_n (lv' := [(2, .int v4), (3, .int x4), (5, .int x4), (0, .ref v0), (1, .int v1), (4, .int v4)]) hx hb dX11_spark_71 rfl hl (by decide) rfl (fun ls hl => ?_)
          exact w_X11_spark_72 G B hz hc0 hr hlk ih v0 v1 v4 x4 v4 _ _ _ hw (lv_sub hl [3, 4, 0, 1, 5] rfl) hf
set_option maxHeartbeats 4000000 in
theorem w_X11_spark_11 {p : Program} {l : Launch} {e : Env} {s : State} {m : MethodId} {args : Array Value} {below : List Frame} {meth : Method} {c : Code} {s0 : State} {E : Ev} {z : Sh} {h : Hp} {n : Nat} {r : Int32} (G : Gl s0 E) (B : Bd p s0 s E m c cX11_spark 6 RX11) (hz : s0.heap.size ≤ z.sz) (hc0 : s.heap.size + 0 = z.sz) (hr : meth.sig.returnType = (some .int)) (hlk : meth.locks = false) : ∀ (H : Heap) (locs : List Loc) (ls : Array Slot), Pw s0 s E z h H locs → lv_has ls 6 [] → f_X11_spark_11 n z h = some r → W p l e (rmO 3 73) s m args below meth c H locs 0 0 (Zt below s0 E z h (some (.int r)) args s 0 0) (F0 m 11 ls []) := by
  have hx := B.1
  have hb := B.2.1
  intro  H locs ls hw hl hf
  unfold f_X11_spark_11 at hf
  refine lv_iconst (v := 3) hx hb dX11_spark_11 (by decide) ?_
  obtain ⟨x1, e, hf⟩ := ob hf
  refine q_callS (As := [.int 3]) (rest := []) (st1 := [.int x1]) (c_X11_refused G e) B hw hz hc0 my_X11_refused mv_X11_refused tw_2_155 ⟨Nat.le_of_ble_eq_true rfl, Nat.le_of_ble_eq_true rfl⟩ ⟨Nat.zero_le _, Nat.zero_le _⟩ rfl hl.1 rfl rfl (Nat.le_of_ble_eq_true rfl) dX11_spark_12 (fun H locs hw => ?_)
  obtain rfl := so hf
  exact q_iret B hw hz hc0 hr hlk dX11_spark_15
set_option maxHeartbeats 4000000 in
theorem c_X11_spark {l : Launch} {s0 : State} {E : Ev} (G : Gl s0 E) {n : Nat} {z : Sh} {h : Hp} {v0 : Nat} {v1 : Int32} {r : Int32} (hf : f_X11_spark n z h v0 v1 = some r) : Ct l s0 E yX11_spark cX11_spark 6 (some .int) 3 73 [.ref v0, .int v1] z h h (some (.int r)) := by
  refine Ct.of G (by decide) (Nat.le_of_ble_eq_true rfl) ?_
  intro p e s m below meth c ls B hw hz hc0 hr hlk hl
  have B : Bd p s0 s E m c cX11_spark 6 RX11 := B
  have hx := B.1
  have hb := B.2.1
  have hl : lv_has ls 6 [(0, .ref v0), (1, .int v1)] := hl
  unfold f_X11_spark at hf
  obtain ⟨_, hf⟩ := if_some hf
  refine lv_iload_n hx hb dX11_spark_0 rfl (lv_at hl 1 rfl) ?_
  refine lv_iconst (v := 1) hx hb dX11_spark_1 (by decide) ?_
  refine lv_icmp_lt (tgt := 11) hx hb dX11_spark_2 (by decide) (fun c1 => ?_) (fun c1 => ?_)
  · have hf := (if_pos c1).symm.trans hf
    exact w_X11_spark_11 G B hz hc0 hr hlk   _ _ _ hw (lv_sub hl [] rfl) hf
  · have hf := (if_neg c1).symm.trans hf
    refine lv_iload_n hx hb dX11_spark_5 rfl (lv_at hl 1 rfl) ?_
    refine lv_bipush (v := 6) hx hb dX11_spark_6 (by decide) ?_
    refine lv_icmp_le (tgt := 16) hx hb dX11_spark_8 (by decide) (fun c2 => ?_) (fun c2 => ?_)
    · have hf := (if_pos c2).symm.trans hf
      refine lv_iconst (v := (-1)) hx hb dX11_spark_16 (by decide) ?_
      refine lv_istore_n (lv' := [(2, .int (-1)), (0, .ref v0), (1, .int v1)]) hx hb dX11_spark_17 rfl hl (by decide) rfl (fun ls hl => ?_)
      refine lv_bipush (v := 7) hx hb dX11_spark_18 (by decide) ?_
      refine lv_istore_n (lv' := [(3, .int 7), (2, .int (-1)), (0, .ref v0), (1, .int v1)]) hx hb dX11_spark_20 rfl hl (by decide) rfl (fun ls hl => ?_)
      refine lv_iconst (v := 0) hx hb dX11_spark_21 (by decide) ?_
      refine lv_istore (lv' := [(4, .int 0), (3, .int 7), (2, .int (-1)), (0, .ref v0), (1, .int v1)]) hx hb dX11_spark_22 hl (by decide) rfl (fun ls hl => ?_)
      exact w_X11_spark_24 G B hz hc0 hr hlk  n v0 v1 (-1) 7 0 _ _ _ hw (lv_sub hl [3, 4, 2, 1, 0] rfl) hf
    · have hf := (if_neg c2).symm.trans hf
      exact w_X11_spark_11 G B hz hc0 hr hlk   _ _ _ hw (lv_sub hl [] rfl) hf
