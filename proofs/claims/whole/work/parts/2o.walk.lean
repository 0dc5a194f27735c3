/-! java/lang/StringLatin1.indexOf([BIII)I -/
def f_J1_indexOf_4cfef (z : Sh) (h : Hp) (v0 : Nat) (v1 : Int32) (v2 : Int32) (v3 : Int32) : Option (Int32) :=
  (f_J1_canEncode_9a6ad z h v1).bind fun x1 =>
  if x1 = 0 then
    some ((-1) : Int32)
  else
    (f_J9_max_7cf53 z h v2 0).bind fun x3 =>
    (aL z v0).bind fun x4 =>
    (f_J9_min_7cf53 z h v3 x4).bind fun x5 =>
    if x3 < x5 then
      none
    else
      some ((-1) : Int32)
set_option maxHeartbeats 4000000 in
theorem c_J1_indexOf_4cfef {l : Launch} {s0 : State} {E : Ev} (G : Gl s0 E) {z : Sh} {h : Hp} {v0 : Nat} {v1 : Int32} {v2 : Int32} {v3 : Int32} {r : Int32} (hf : f_J1_indexOf_4cfef z h v0 v1 v2 v3 = some r) : Ct l s0 E yJ1_indexOf_4cfef cJ1_indexOf_4cfef 4 (some .int) 1 21 [.ref v0, .int v1, .int v2, .int v3] z h h (some (.int r)) := by
  refine Ct.ofF G (by decide +kernel) (Nat.le_of_ble_eq_true rfl) ?_
  intro p e s m below meth c ls B hw hz hc0 hr hlk hl
  have B : Bd p s0 s E m c cJ1_indexOf_4cfef 4 RJ1 := B
  have hx := B.1
  have hb := B.2.1
  have hl : lv_has ls 4 [(0, .ref v0), (1, .int v1), (2, .int v2), (3, .int v3)] := hl
  unfold f_J1_indexOf_4cfef at hf
  refine lv_iload_n hx hb dJ1_indexOf_4cfef_0 rfl (lv_at hl 1 rfl) ?_
  obtain ⟨x1, e, hf⟩ := ob hf
  refine q_callS (As := [.int v1]) (rest := []) (st1 := [.int x1]) (c_J1_canEncode_9a6ad G e) B hw hz hc0 my_J1_canEncode_9a6ad mv_J1_canEncode_9a6ad tw_2_218 ⟨Nat.le_of_ble_eq_true rfl, Nat.le_of_ble_eq_true rfl⟩ ⟨Nat.zero_le _, Nat.zero_le _⟩ rfl hl.1 rfl rfl (Nat.le_of_ble_eq_true rfl) dJ1_indexOf_4cfef_1 (fun H locs hw => ?_)
  refine lv_if_ne (tgt := 9) hx hb dJ1_indexOf_4cfef_4 (by decide) (fun c2 => ?_) (fun c2 => ?_)
  · have hf := (if_neg c2).symm.trans hf
    refine lv_iload_n hx hb dJ1_indexOf_4cfef_9 rfl (lv_at hl 2 rfl) ?_
    refine lv_iconst (v := 0) hx hb dJ1_indexOf_4cfef_10 (by decide) ?_
    obtain ⟨x3, e, hf⟩ := ob hf
    refine q_callS (As := [.int v2, .int 0]) (rest := []) (st1 := [.int x3]) (c_J9_max_7cf53 G e) B hw hz hc0 my_J9_max_7cf53 mv_J9_max_7cf53 tw_2_221 ⟨Nat.le_of_ble_eq_true rfl, Nat.le_of_ble_eq_true rfl⟩ ⟨Nat.zero_le _, Nat.zero_le _⟩ rfl hl.1 rfl rfl (Nat.le_of_ble_eq_true rfl) dJ1_indexOf_4cfef_11 (fun H locs hw => ?_)
    refine lv_istore_n (lv' := [(2, .int x3), (0, .ref v0), (1, .int v1), (3, .int v3)]) hx hb dJ1_indexOf_4cfef_14 rfl hl (by decide) rfl (fun ls hl => ?_)
    refine lv_iload_n hx hb dJ1_indexOf_4cfef_15 rfl (lv_at hl 3 rfl) ?_
    refine lv_aload_n hx hb dJ1_indexOf_4cfef_16 rfl (lv_at hl 1 rfl) ?_
    obtain ⟨x4, e, hf⟩ := ob hf
    refine q_len e B hw dJ1_indexOf_4cfef_17 ?_
    obtain ⟨x5, e, hf⟩ := ob hf
    refine q_callS (As := [.int v3, .int x4]) (rest := []) (st1 := [.int x5]) (c_J9_min_7cf53 G e) B hw hz hc0 my_J9_min_7cf53 mv_J9_min_7cf53 tw_2_222 ⟨Nat.le_of_ble_eq_true rfl, Nat.le_of_ble_eq_true rfl⟩ ⟨Nat.zero_le _, Nat.zero_le _⟩ rfl hl.1 rfl rfl (Nat.le_of_ble_eq_true rfl) dJ1_indexOf_4cfef_18 (fun H locs hw => ?_)
    refine lv_istore_n (lv' := [(3, .int x5), (2, .int x3), (0, .ref v0), (1, .int v1)]) hx hb dJ1_indexOf_4cfef_21 rfl hl (by decide) rfl (fun ls hl => ?_)
    refine lv_iload_n hx hb dJ1_indexOf_4cfef_22 rfl (lv_at hl 1 rfl) ?_
    refine lv_iload_n hx hb dJ1_indexOf_4cfef_23 rfl (lv_at hl 0 rfl) ?_
    refine lv_icmp_lt (tgt := 29) hx hb dJ1_indexOf_4cfef_24 (by decide) (fun c6 => ?_) (fun c6 => ?_)
    · have hf := (if_pos c6).symm.trans hf
      cases hf
    · have hf := (if_neg c6).symm.trans hf
      refine lv_iconst (v := (-1)) hx hb dJ1_indexOf_4cfef_27 (by decide) ?_
      obtain rfl := so hf
      exact q_iret B hw hz hc0 hr hlk dJ1_indexOf_4cfef_28
  · have hf := (if_pos c2).symm.trans hf
    refine lv_iconst (v := (-1)) hx hb dJ1_indexOf_4cfef_7 (by decide) ?_
    obtain rfl := so hf
    exact q_iret B hw hz hc0 hr hlk dJ1_indexOf_4cfef_8
/-! java/lang/StringLatin1.indexOfChar([BIII)I -/
def f_J1_indexOfChar_4cfef_7 (n : Nat) (z : Sh) (h : Hp) : Nat → Nat → Int32 → Int32 → Int32 → Option (Int32)
  | 0, _, _, _, _ => none
  | i + 1, v0, v3, v4, v5 =>
    if v3 ≤ v5 then
      some ((-1) : Int32)
    else
      (ldB z h v0 v5).bind fun x2 =>
      if x2 = v4 then
        some v5
      else
        (some (v5 + 1)).bind fun x4 =>
        (f_J1_indexOfChar_4cfef_7 n z h i) v0 v3 v4 x4
def f_J1_indexOfChar_4cfef (n : Nat) (z : Sh) (h : Hp) (v0 : Nat) (v1 : Int32) (v2 : Int32) (v3 : Int32) : Option (Int32) :=
  (some ((Int32.toInt8 v1).toInt32)).bind fun x1 =>
  f_J1_indexOfChar_4cfef_7 n z h n v0 v3 x1 v2
set_option maxHeartbeats 4000000 in
theorem w_J1_indexOfChar_4cfef_7 {p : Program} {l : Launch} {e : Env} {s : State} {m : MethodId} {args : Array Value} {below : List Frame} {meth : Method} {c : Code} {s0 : State} {E : Ev} {z : Sh} {h : Hp} {n : Nat} {r : Int32} (G : Gl s0 E) (B : Bd p s0 s E m c cJ1_indexOfChar_4cfef 6 RJ1) (hz : s0.heap.size ≤ z.sz) (hc0 : s.heap.size + 0 = z.sz) (hr : meth.sig.returnType = (some .int)) (hlk : meth.locks = false) : ∀ (i : Nat), ∀ (v0 : Nat) (v3 : Int32) (v4 : Int32) (v5 : Int32) (H : Heap) (locs : List Loc) (ls : Array Slot), Pw s0 s E z h H locs → lv_has ls 6 [(0, .ref v0), (3, .int v3), (4, .int v4), (5, .int v5)] → f_J1_indexOfChar_4cfef_7 n z h i v0 v3 v4 v5 = some r → W p l e (rmO 0 0) s m args below meth c H locs 0 0 (Zt below s0 E z h (some (.int r)) args s 0 0) (F0 m 7 ls []) := by
  have hx := B.1
  have hb := B.2.1
  intro i
  induction i with
  | zero =>
    intro v0 v3 v4 v5 H locs ls hw hl hf
    have hf := (f_J1_indexOfChar_4cfef_7.eq_1 ..).symm.trans hf
    cases hf
  | succ i ih =>
    intro v0 v3 v4 v5 H locs ls hw hl hf
    have hf := (f_J1_indexOfChar_4cfef_7.eq_2 ..).symm.trans hf
    refine lv_iload hx hb dJ1_indexOfChar_4cfef_7 (lv_at hl 3 rfl) ?_
    refine lv_iload_n hx hb dJ1_indexOfChar_4cfef_9 rfl (lv_at hl 1 rfl) ?_
    refine lv_icmp_ge (tgt := 31) hx hb dJ1_indexOfChar_4cfef_10 (by decide) (fun c1 => ?_) (fun c1 => ?_)
    · have hf := (if_pos c1).symm.trans hf
      refine lv_iconst (v := (-1)) hx hb dJ1_indexOfChar_4cfef_31 (by decide) ?_
      obtain rfl := so hf
      exact q_iret B hw hz hc0 hr hlk dJ1_indexOfChar_4cfef_32
    · have hf := (if_neg c1).symm.trans hf
      refine lv_aload_n hx hb dJ1_indexOfChar_4cfef_13 rfl (lv_at hl 0 rfl) ?_
      refine lv_iload hx hb dJ1_indexOfChar_4cfef_14 (lv_at hl 3 rfl) ?_
      obtain ⟨x2, e, hf⟩ := ob hf
      refine q_ldB e B hw dJ1_indexOfChar_4cfef_16 ?_
      refine lv_iload hx hb dJ1_indexOfChar_4cfef_17 (lv_at hl 2 rfl) ?_
      refine lv_icmp_ne (tgt := 25) hx hb dJ1_indexOfChar_4cfef_19 (by decide) (fun c3 => ?_) (fun c3 => ?_)
      · have hf := (if_neg c3).symm.trans hf
        obtain ⟨x4, e, hf⟩ := ob hf
        refine lv_iinc (v := x4) (lv' := [(5, .int x4), (0, .ref v0), (3, .int v3), (4, .int v4)]) hx hb dJ1_indexOfChar_4cfef_25 hl (k := 3) rfl (Option.some.inj e) (by decide) rfl (fun ls hl => ?_)
        refine lv_goto (tgt := 7) hx hb dJ1_indexOfChar_4cfef_28 (by decide) ?_
        exact ih v0 v3 v4 x4 _ _ _ hw (lv_sub hl [1, 2, 3, 0] rfl) hf
      · have hf := (if_pos c3).symm.trans hf
        refine lv_iload hx hb dJ1_indexOfChar_4cfef_22 (lv_at hl 3 rfl) ?_
        obtain rfl := so hf
        exact q_iret B hw hz hc0 hr hlk dJ1_indexOfChar_4cfef_24
set_option maxHeartbeats 4000000 in
theorem c_J1_indexOfChar_4cfef {l : Launch} {s0 : State} {E : Ev} (G : Gl s0 E) {n : Nat} {z : Sh} {h : Hp} {v0 : Nat} {v1 : Int32} {v2 : Int32} {v3 : Int32} {r : Int32} (hf : f_J1_indexOfChar_4cfef n z h v0 v1 v2 v3 = some r) : Ct l s0 E yJ1_indexOfChar_4cfef cJ1_indexOfChar_4cfef 6 (some .int) 0 0 [.ref v0, .int v1, .int v2, .int v3] z h h (some (.int r)) := by
  refine Ct.ofF G (by decide +kernel) (Nat.le_of_ble_eq_true rfl) ?_
  intro p e s m below meth c ls B hw hz hc0 hr hlk hl
  have B : Bd p s0 s E m c cJ1_indexOfChar_4cfef 6 RJ1 := B
  have hx := B.1
  have hb := B.2.1
  have hl : lv_has ls 6 [(0, .ref v0), (1, .int v1), (2, .int v2), (3, .int v3)] := hl
  unfold f_J1_indexOfChar_4cfef at hf
  refine lv_iload_n hx hb dJ1_indexOfChar_4cfef_0 rfl (lv_at hl 1 rfl) ?_
  refine lv_i2b (v := ((Int32.toInt8 v1).toInt32)) hx hb dJ1_indexOfChar_4cfef_1 rfl ?_
  obtain ⟨x1, e, hf⟩ := ob hf
  refine q_nmI e ?_
  refine lv_istore (lv' := [(4, .int x1), (0, .ref v0), (1, .int v1), (2, .int v2), (3, .int v3)]) hx hb dJ1_indexOfChar_4cfef_2 hl (by decide) rfl (fun ls hl => ?_)
  refine lv_iload_n hx hb dJ1_indexOfChar_4cfef_4 rfl (lv_at hl 3 rfl) ?_
  refine lv_istore (lv' := [(5, .int v2), (4, .int x1), (0, .ref v0), (1, .int v1), (2, .int v2), (3, .int v3)]) hx hb dJ1_indexOfChar_4cfef_5 hl (by decide) rfl (fun ls hl => ?_)
  exact w_J1_indexOfChar_4cfef_7 G B hz hc0 hr hlk  n v0 v3 x1 v2 _ _ _ hw (lv_sub hl [2, 5, 1, 0] rfl) hf
/-! java/lang/StringUTF16.length([B)I -/
def f_J2_length_9d52b (z : Sh) (h : Hp) (v0 : Nat) : Option (Int32) :=
  (aL z v0).bind fun x1 =>
  some (x1 >>> (1 &&& 31))
set_option maxHeartbeats 4000000 in
theorem c_J2_length_9d52b {l : Launch} {s0 : State} {E : Ev} (G : Gl s0 E) {z : Sh} {h : Hp} {v0 : Nat} {r : Int32} (hf : f_J2_length_9d52b z h v0 = some r) : Ct l s0 E yJ2_length_9d52b cJ2_length_9d52b 1 (some .int) 0 0 [.ref v0] z h h (some (.int r)) := by
  refine Ct.ofF G (by decide +kernel) (Nat.le_of_ble_eq_true rfl) ?_
  intro p e s m below meth c ls B hw hz hc0 hr hlk hl
  have B : Bd p s0 s E m c cJ2_length_9d52b 1 RJ2 := B
  have hx := B.1
  have hb := B.2.1
  have hl : lv_has ls 1 [(0, .ref v0)] := hl
  unfold f_J2_length_9d52b at hf
  refine lv_aload_n hx hb dJ2_length_9d52b_0 rfl (lv_at hl 0 rfl) ?_
  obtain ⟨x1, e, hf⟩ := ob hf
  refine q_len e B hw dJ2_length_9d52b_1 ?_
  refine lv_iconst (v := 1) hx hb dJ2_length_9d52b_2 (by decide) ?_
  refine lv_ishr hx hb dJ2_length_9d52b_3 ?_
  obtain rfl := so hf
  exact q_iret B hw hz hc0 hr hlk dJ2_length_9d52b_4
/-! java/lang/StringUTF16.indexOf([BIII)I -/
def f_J2_indexOf_4cfef (z : Sh) (h : Hp) (v0 : Nat) (v1 : Int32) (v2 : Int32) (v3 : Int32) : Option (Int32) :=
  (f_J9_max_7cf53 z h v2 0).bind fun x1 =>
  (aL z v0).bind fun x2 =>
  (f_J9_min_7cf53 z h v3 (x2 >>> (1 &&& 31))).bind fun x3 =>
  if x1 < x3 then
    if 65536 ≤ v1 then
      none
    else
      none
  else
    some ((-1) : Int32)
set_option maxHeartbeats 4000000 in
theorem c_J2_indexOf_4cfef {l : Launch} {s0 : State} {E : Ev} (G : Gl s0 E) {z : Sh} {h : Hp} {v0 : Nat} {v1 : Int32} {v2 : Int32} {v3 : Int32} {r : Int32} (hf : f_J2_indexOf_4cfef z h v0 v1 v2 v3 = some r) : Ct l s0 E yJ2_indexOf_4cfef cJ2_indexOf_4cfef 4 (some .int) 1 21 [.ref v0, .int v1, .int v2, .int v3] z h h (some (.int r)) := by
  refine Ct.ofF G (by decide +kernel) (Nat.le_of_ble_eq_true rfl) ?_
  intro p e s m below meth c ls B hw hz hc0 hr hlk hl
  have B : Bd p s0 s E m c cJ2_indexOf_4cfef 4 RJ2 := B
  have hx := B.1
  have hb := B.2.1
  have hl : lv_has ls 4 [(0, .ref v0), (1, .int v1), (2, .int v2), (3, .int v3)] := hl
  unfold f_J2_indexOf_4cfef at hf
  refine lv_iload_n hx hb dJ2_indexOf_4cfef_0 rfl (lv_at hl 2 rfl) ?_
  refine lv_iconst (v := 0) hx hb dJ2_indexOf_4cfef_1 (by decide) ?_
  obtain ⟨x1, e, hf⟩ := ob hf
  refine q_callS (As := [.int v2, .int 0]) (rest := []) (st1 := [.int x1]) (c_J9_max_7cf53 G e) B hw hz hc0 my_J9_max_7cf53 mv_J9_max_7cf53 tw_2_231 ⟨Nat.le_of_ble_eq_true rfl, Nat.le_of_ble_eq_true rfl⟩ ⟨Nat.zero_le _, Nat.zero_le _⟩ rfl hl.1 rfl rfl (Nat.le_of_ble_eq_true rfl) dJ2_indexOf_4cfef_2 (fun H locs hw => ?_)
  refine lv_istore_n (lv' := [(2, .int x1), (0, .ref v0), (1, .int v1), (3, .int v3)]) hx hb dJ2_indexOf_4cfef_5 rfl hl (by decide) rfl (fun ls hl => ?_)
  refine lv_iload_n hx hb dJ2_indexOf_4cfef_6 rfl (lv_at hl 3 rfl) ?_
  refine lv_aload_n hx hb dJ2_indexOf_4cfef_7 rfl (lv_at hl 1 rfl) ?_
  obtain ⟨x2, e, hf⟩ := ob hf
  refine q_len e B hw dJ2_indexOf_4cfef_8 ?_
  refine lv_iconst (v := 1) hx hb dJ2_indexOf_4cfef_9 (by decide) ?_
  refine lv_ishr hx hb dJ2_indexOf_4cfef_10 ?_
  obtain ⟨x3, e, hf⟩ := ob hf
  refine q_callS (As := [.int v3, .int (x2 >>> (1 &&& 31))]) (rest := []) (st1 := [.int x3]) (c_J9_min_7cf53 G e) B hw hz hc0 my_J9_min_7cf53 mv_J9_min_7cf53 tw_2_232 ⟨Nat.le_of_ble_eq_true rfl, Nat.le_of_ble_eq_true rfl⟩ ⟨Nat.zero_le _, Nat.zero_le _⟩ rfl hl.1 rfl rfl (Nat.le_of_ble_eq_true rfl) dJ2_indexOf_4cfef_11 (fun H locs hw => ?_)
  refine lv_istore_n (lv' := [(3, .int x3), (2, .int x1), (0, .ref v0), (1, .int v1)]) hx hb dJ2_indexOf_4cfef_14 rfl hl (by decide) rfl (fun ls hl => ?_)
  refine lv_iload_n hx hb dJ2_indexOf_4cfef_15 rfl (lv_at hl 1 rfl) ?_
  refine lv_iload_n hx hb dJ2_indexOf_4cfef_16 rfl (lv_at hl 0 rfl) ?_
  refine lv_icmp_lt (tgt := 22) hx hb dJ2_indexOf_4cfef_17 (by decide) (fun c4 => ?_) (fun c4 => ?_)
  · have hf := (if_pos c4).symm.trans hf
    refine lv_iload_n hx hb dJ2_indexOf_4cfef_22 rfl (lv_at hl 3 rfl) ?_
    refine lv_ldc hx hb B.2.2.2.1 (B.w tw_2_233 rfl) dJ2_indexOf_4cfef_23 ?_
    refine lv_icmp_ge (tgt := 36) hx hb dJ2_indexOf_4cfef_25 (by decide) (fun c5 => ?_) (fun c5 => ?_)
    · have hf := (if_pos c5).symm.trans hf
      cases hf
    · have hf := (if_neg c5).symm.trans hf
      cases hf
  · have hf := (if_neg c4).symm.trans hf
    refine lv_iconst (v := (-1)) hx hb dJ2_indexOf_4cfef_20 (by decide) ?_
    obtain rfl := so hf
    exact q_iret B hw hz hc0 hr hlk dJ2_indexOf_4cfef_21
/-! java/lang/StringUTF16.indexOfCharUnsafe([BIII)I -/
def f_J2_indexOfCharUnsafe_4cfef_3 (n : Nat) (z : Sh) (h : Hp) : Nat → Nat → Int32 → Int32 → Int32 → Option (Int32)
  | 0, _, _, _, _ => none
  | i + 1, v0, v1, v3, v4 =>
    if v3 ≤ v4 then
      some ((-1) : Int32)
    else
      none
def f_J2_indexOfCharUnsafe_4cfef (n : Nat) (z : Sh) (h : Hp) (v0 : Nat) (v1 : Int32) (v2 : Int32) (v3 : Int32) : Option (Int32) :=
  f_J2_indexOfCharUnsafe_4cfef_3 n z h n v0 v1 v3 v2
set_option maxHeartbeats 4000000 in
theorem w_J2_indexOfCharUnsafe_4cfef_3 {p : Program} {l : Launch} {e : Env} {s : State} {m : MethodId} {args : Array Value} {below : List Frame} {meth : Method} {c : Code} {s0 : State} {E : Ev} {z : Sh} {h : Hp} {n : Nat} {r : Int32} (G : Gl s0 E) (B : Bd p s0 s E m c cJ2_indexOfCharUnsafe_4cfef 5 RJ2) (hz : s0.heap.size ≤ z.sz) (hc0 : s.heap.size + 0 = z.sz) (hr : meth.sig.returnType = (some .int)) (hlk : meth.locks = false) : ∀ (i : Nat), ∀ (v0 : Nat) (v1 : Int32) (v3 : Int32) (v4 : Int32) (H : Heap) (locs : List Loc) (ls : Array Slot), Pw s0 s E z h H locs → lv_has ls 5 [(0, .ref v0), (1, .int v1), (3, .int v3), (4, .int v4)] → f_J2_indexOfCharUnsafe_4cfef_3 n z h i v0 v1 v3 v4 = some r → W p l e (rmO 0 0) s m args below meth c H locs 0 0 (Zt below s0 E z h (some (.int r)) args s 0 0) (F0 m 3 ls []) := by
  have hx := B.1
  have hb := B.2.1
  intro i
  induction i with
  | zero =>
    intro v0 v1 v3 v4 H locs ls hw hl hf
    have hf := (f_J2_indexOfCharUnsafe_4cfef_3.eq_1 ..).symm.trans hf
    cases hf
  | succ i ih =>
    intro v0 v1 v3 v4 H locs ls hw hl hf
    have hf := (f_J2_indexOfCharUnsafe_4cfef_3.eq_2 ..).symm.trans hf
    refine lv_iload hx hb dJ2_indexOfCharUnsafe_4cfef_3 (lv_at hl 3 rfl) ?_
    refine lv_iload_n hx hb dJ2_indexOfCharUnsafe_4cfef_5 rfl (lv_at hl 2 rfl) ?_
    refine lv_icmp_ge (tgt := 28) hx hb dJ2_indexOfCharUnsafe_4cfef_6 (by decide) (fun c1 => ?_) (fun c1 => ?_)
    · have hf := (if_pos c1).symm.trans hf
      refine lv_iconst (v := (-1)) hx hb dJ2_indexOfCharUnsafe_4cfef_28 (by decide) ?_
      obtain rfl := so hf
      exact q_iret B hw hz hc0 hr hlk dJ2_indexOfCharUnsafe_4cfef_29
    · have hf := (if_neg c1).symm.trans hf
      cases hf
set_option maxHeartbeats 4000000 in
theorem c_J2_indexOfCharUnsafe_4cfef {l : Launch} {s0 : State} {E : Ev} (G : Gl s0 E) {n : Nat} {z : Sh} {h : Hp} {v0 : Nat} {v1 : Int32} {v2 : Int32} {v3 : Int32} {r : Int32} (hf : f_J2_indexOfCharUnsafe_4cfef n z h v0 v1 v2 v3 = some r) : Ct l s0 E yJ2_indexOfCharUnsafe_4cfef cJ2_indexOfCharUnsafe_4cfef 5 (some .int) 0 0 [.ref v0, .int v1, .int v2, .int v3] z h h (some (.int r)) := by
  refine Ct.ofF G (by decide +kernel) (Nat.le_of_ble_eq_true rfl) ?_
  intro p e s m below meth c ls B hw hz hc0 hr hlk hl
  have B : Bd p s0 s E m c cJ2_indexOfCharUnsafe_4cfef 5 RJ2 := B
  have hx := B.1
  have hb := B.2.1
  have hl : lv_has ls 5 [(0, .ref v0), (1, .int v1), (2, .int v2), (3, .int v3)] := hl
  unfold f_J2_indexOfCharUnsafe_4cfef at hf
  refine lv_iload_n hx hb dJ2_indexOfCharUnsafe_4cfef_0 rfl (lv_at hl 2 rfl) ?_
  refine lv_istore (lv' := [(4, .int v2), (0, .ref v0), (1, .int v1), (2, .int v2), (3, .int v3)]) hx hb dJ2_indexOfCharUnsafe_4cfef_1 hl (by decide) rfl (fun ls hl => ?_)
  exact w_J2_indexOfCharUnsafe_4cfef_3 G B hz hc0 hr hlk  n v0 v1 v3 v2 _ _ _ hw (lv_sub hl [1, 2, 4, 0] rfl) hf
/-! java/lang/StringUTF16.indexOfSupplementary([BIII)I -/
def f_J2_indexOfSupplementary_4cfef_63 (n : Nat) (z : Sh) (h : Hp) (k28 : Nat → Int32 → Int32 → Int32 → Int32 → Option (Int32)) (v0 : Nat) (v3 : Int32) (v4 : Int32) (v5 : Int32) (v6 : Int32) : Option (Int32) :=
  (some (v6 + 1)).bind fun x1 =>
  k28 v0 v3 v4 v5 x1
def f_J2_indexOfSupplementary_4cfef_28 (n : Nat) (z : Sh) (h : Hp) : Nat → Nat → Int32 → Int32 → Int32 → Int32 → Option (Int32)
  | 0, _, _, _, _, _ => none
  | i + 1, v0, v3, v4, v5, v6 =>
    if (v3 - 1) ≤ v6 then
      some ((-1) : Int32)
    else
      none
def f_J2_indexOfSupplementary_4cfef (n : Nat) (z : Sh) (h : Hp) (v0 : Nat) (v1 : Int32) (v2 : Int32) (v3 : Int32) : Option (Int32) :=
  (f_J11_isValidCodePoint_9a6ad z h v1).bind fun x1 =>
  if x1 = 0 then
    some ((-1) : Int32)
  else
    none
set_option maxHeartbeats 4000000 in
theorem w_J2_indexOfSupplementary_4cfef_63 {p : Program} {l : Launch} {e : Env} {s : State} {m : MethodId} {args : Array Value} {below : List Frame} {meth : Method} {c : Code} {s0 : State} {E : Ev} {z : Sh} {h : Hp} {n : Nat} {k28 : Nat → Int32 → Int32 → Int32 → Int32 → Option (Int32)} {r : Int32} (G : Gl s0 E) (B : Bd p s0 s E m c cJ2_indexOfSupplementary_4cfef 7 RJ2) (hz : s0.heap.size ≤ z.sz) (hc0 : s.heap.size + 0 = z.sz) (hr : meth.sig.returnType = (some .int)) (hlk : meth.locks = false) (hk28 : ∀ (v0 : Nat) (v3 : Int32) (v4 : Int32) (v5 : Int32) (v6 : Int32) (H : Heap) (locs : List Loc) (ls : Array Slot), Pw s0 s E z h H locs → lv_has ls 7 [(0, .ref v0), (3, .int v3), (4, .int v4), (5, .int v5), (6, .int v6)] → k28 v0 v3 v4 v5 v6 = some r → W p l e (rmO 1 21) s m args below meth c H locs 0 0 (Zt below s0 E z h (some (.int r)) args s 0 0) (F0 m 28 ls [])) : ∀ (v0 : Nat) (v3 : Int32) (v4 : Int32) (v5 : Int32) (v6 : Int32) (H : Heap) (locs : List Loc) (ls : Array Slot), Pw s0 s E z h H locs → lv_has ls 7 [(0, .ref v0), (3, .int v3), (4, .int v4), (5, .int v5), (6, .int v6)] → f_J2_indexOfSupplementary_4cfef_63 n z h k28 v0 v3 v4 v5 v6 = some r → W p l e (rmO 1 21) s m args below meth c H locs 0 0 (Zt below s0 E z h (some (.int r)) args s 0 0) (F0 m 63 ls []) := by
  have hx := B.1
  have hb := B.2.1
  intro v0 v3 v4 v5 v6 H locs ls hw hl hf
  unfold f_J2_indexOfSupplementary_4cfef_63 at hf
  obtain ⟨x1, e, hf⟩ := ob hf
  refine lv_iinc (v := x1) (lv' := [(6, .int x1), (0, .ref v0), (3, .int v3), (4, .int v4), (5, .int v5)]) hx hb dJ2_indexOfSupplementary_4cfef_63 hl (k := 4) rfl (Option.some.inj e) (by decide) rfl (fun ls hl => ?_)
  refine lv_goto (tgt := 28) hx hb dJ2_indexOfSupplementary_4cfef_66 (by decide) ?_
  exact hk28 v0 v3 v4 v5 x1 _ _ _ hw (lv_sub hl [1, 2, 3, 4, 0] rfl) hf
set_option maxHeartbeats 4000000 in
theorem w_J2_indexOfSupplementary_4cfef_28 {p : Program} {l : Launch} {e : Env} {s : State} {m : MethodId} {args : Array Value} {below : List Frame} {meth : Method} {c : Code} {s0 : State} {E : Ev} {z : Sh} {h : Hp} {n : Nat} {r : Int32} (G : Gl s0 E) (B : Bd p s0 s E m c cJ2_indexOfSupplementary_4cfef 7 RJ2) (hz : s0.heap.size ≤ z.sz) (hc0 : s.heap.size + 0 = z.sz) (hr : meth.sig.returnType = (some .int)) (hlk : meth.locks = false) : ∀ (i : Nat), ∀ (v0 : Nat) (v3 : Int32) (v4 : Int32) (v5 : Int32) (v6 : Int32) (H : Heap) (locs : List Loc) (ls : Array Slot), Pw s0 s E z h H locs → lv_has ls 7 [(0, .ref v0), (3, .int v3), (4, .int v4), (5, .int v5), (6, .int v6)] → f_J2_indexOfSupplementary_4cfef_28 n z h i v0 v3 v4 v5 v6 = some r → W p l e (rmO 1 21) s m args below meth c H locs 0 0 (Zt below s0 E z h (some (.int r)) args s 0 0) (F0 m 28 ls []) := by
  have hx := B.1
  have hb := B.2.1
  intro i
  induction i with
  | zero =>
    intro v0 v3 v4 v5 v6 H locs ls hw hl hf
    have hf := (f_J2_indexOfSupplementary_4cfef_28.eq_1 ..).symm.trans hf
    cases hf
  | succ i ih =>
    intro v0 v3 v4 v5 v6 H locs ls hw hl hf
    have hf := (f_J2_indexOfSupplementary_4cfef_28.eq_2 ..).symm.trans hf
    refine lv_iload hx hb dJ2_indexOfSupplementary_4cfef_28 (lv_at hl 4 rfl) ?_
    refine lv_iload_n hx hb dJ2_indexOfSupplementary_4cfef_30 rfl (lv_at hl 1 rfl) ?_
    refine lv_iconst (v := 1) hx hb dJ2_indexOfSupplementary_4cfef_31 (by decide) ?_
    refine lv_isub hx hb dJ2_indexOfSupplementary_4cfef_32 ?_
    refine lv_icmp_ge (tgt := 69) hx hb dJ2_indexOfSupplementary_4cfef_33 (by decide) (fun c1 => ?_) (fun c1 => ?_)
    · have hf := (if_pos c1).symm.trans hf
      refine lv_iconst (v := (-1)) hx hb dJ2_indexOfSupplementary_4cfef_69 (by decide) ?_
      obtain rfl := so hf
      exact q_iret B hw hz hc0 hr hlk dJ2_indexOfSupplementary_4cfef_70
    · have hf := (if_neg c1).symm.trans hf
      cases hf
set_option maxHeartbeats 4000000 in
theorem c_J2_indexOfSupplementary_4cfef {l : Launch} {s0 : State} {E : Ev} (G : Gl s0 E) {n : Nat} {z : Sh} {h : Hp} {v0 : Nat} {v1 : Int32} {v2 : Int32} {v3 : Int32} {r : Int32} (hf : f_J2_indexOfSupplementary_4cfef n z h v0 v1 v2 v3 = some r) : Ct l s0 E yJ2_indexOfSupplementary_4cfef cJ2_indexOfSupplementary_4cfef 7 (some .int) 1 21 [.ref v0, .int v1, .int v2, .int v3] z h h (some (.int r)) := by
  refine Ct.ofF G (by decide +kernel) (Nat.le_of_ble_eq_true rfl) ?_
  intro p e s m below meth c ls B hw hz hc0 hr hlk hl
  have B : Bd p s0 s E m c cJ2_indexOfSupplementary_4cfef 7 RJ2 := B
  have hx := B.1
  have hb := B.2.1
  have hl : lv_has ls 7 [(0, .ref v0), (1, .int v1), (2, .int v2), (3, .int v3)] := hl
  unfold f_J2_indexOfSupplementary_4cfef at hf
  refine lv_iload_n hx hb dJ2_indexOfSupplementary_4cfef_0 rfl (lv_at hl 1 rfl) ?_
  obtain ⟨x1, e, hf⟩ := ob hf
  refine q_callS (As := [.int v1]) (rest := []) (st1 := [.int x1]) (c_J11_isValidCodePoint_9a6ad G e) B hw hz hc0 my_J11_isValidCodePoint_9a6ad mv_J11_isValidCodePoint_9a6ad tw_3_26 ⟨Nat.le_of_ble_eq_true rfl, Nat.le_of_ble_eq_true rfl⟩ ⟨Nat.zero_le _, Nat.zero_le _⟩ rfl hl.1 rfl rfl (Nat.le_of_ble_eq_true rfl) dJ2_indexOfSupplementary_4cfef_1 (fun H locs hw => ?_)
  refine lv_if_eq (tgt := 69) hx hb dJ2_indexOfSupplementary_4cfef_4 (by decide) (fun c2 => ?_) (fun c2 => ?_)
  · have hf := (if_pos c2).symm.trans hf
    refine lv_iconst (v := (-1)) hx hb dJ2_indexOfSupplementary_4cfef_69 (by decide) ?_
    obtain rfl := so hf
    exact q_iret B hw hz hc0 hr hlk dJ2_indexOfSupplementary_4cfef_70
  · have hf := (if_neg c2).symm.trans hf
    cases hf
/-! java/util/Arrays.fill([JJ)V -/
def f_J7_fill_d0a16_6 (n : Nat) (z : Sh) : Nat → Hp → Nat → Int64 → Int32 → Int32 → Option (Hp)
  | 0, _, _, _, _, _ => none
  | i + 1, h, v0, v1, v3, v4 =>
    if v4 ≤ v3 then
      some h
    else
      (stJ z h v0 v3 v1).bind fun h2 =>
      (some (v3 + 1)).bind fun x3 =>
      (f_J7_fill_d0a16_6 n z i) h2 v0 v1 x3 v4
def f_J7_fill_d0a16 (n : Nat) (z : Sh) (h : Hp) (v0 : Nat) (v1 : Int64) : Option (Hp) :=
  (aL z v0).bind fun x1 =>
  f_J7_fill_d0a16_6 n z n h v0 v1 0 x1
set_option maxHeartbeats 4000000 in
theorem w_J7_fill_d0a16_6 {p : Program} {l : Launch} {e : Env} {s : State} {m : MethodId} {args : Array Value} {below : List Frame} {meth : Method} {c : Code} {s0 : State} {E : Ev} {z : Sh} {n : Nat} {h' : Hp} (G : Gl s0 E) (B : Bd p s0 s E m c cJ7_fill_d0a16 5 RJ7) (hz : s0.heap.size ≤ z.sz) (hc0 : s.heap.size + 0 = z.sz) (hr : meth.sig.returnType = none) (hlk : meth.locks = false) : ∀ (i : Nat), ∀ (h : Hp) (v0 : Nat) (v1 : Int64) (v3 : Int32) (v4 : Int32) (H : Heap) (locs : List Loc) (ls : Array Slot), Pw s0 s E z h H locs → lv_has ls 5 [(0, .ref v0), (1, .long v1), (3, .int v3), (4, .int v4)] → f_J7_fill_d0a16_6 n z i h v0 v1 v3 v4 = some h' → W p l e (rmO 0 0) s m args below meth c H locs 0 0 (Zt below s0 E z h' (none) args s 0 0) (F0 m 6 ls []) := by
  have hx := B.1
  have hb := B.2.1
  intro i
  induction i with
  | zero =>
    intro h v0 v1 v3 v4 H locs ls hw hl hf
    have hf := (f_J7_fill_d0a16_6.eq_1 ..).symm.trans hf
    cases hf
  | succ i ih =>
    intro h v0 v1 v3 v4 H locs ls hw hl hf
    have hf := (f_J7_fill_d0a16_6.eq_2 ..).symm.trans hf
    refine lv_iload_n hx hb dJ7_fill_d0a16_6 rfl (lv_at hl 2 rfl) ?_
    refine lv_iload hx hb dJ7_fill_d0a16_7 (lv_at hl 3 rfl) ?_
    refine lv_icmp_ge (tgt := 22) hx hb dJ7_fill_d0a16_9 (by decide) (fun c1 => ?_) (fun c1 => ?_)
    · have hf := (if_pos c1).symm.trans hf
      obtain rfl := so hf
      exact q_vret B hw hz hc0 hr hlk dJ7_fill_d0a16_22
    · have hf := (if_neg c1).symm.trans hf
      refine lv_aload_n hx hb dJ7_fill_d0a16_12 rfl (lv_at hl 0 rfl) ?_
      refine lv_iload_n hx hb dJ7_fill_d0a16_13 rfl (lv_at hl 2 rfl) ?_
      refine lv_lload_n hx hb dJ7_fill_d0a16_14 rfl (lv_at hl 1 rfl) ?_
      obtain ⟨h2, e, hf⟩ := ob hf
      refine q_stJ e B hw dJ7_fill_d0a16_15 (fun H locs hw => ?_)
      obtain ⟨x3, e, hf⟩ := ob hf
      refine lv_iinc (v := x3) (lv' := [(3, .int x3), (0, .ref v0), (1, .long v1), (4, .int v4)]) hx hb dJ7_fill_d0a16_16 hl (k := 2) rfl (Option.some.inj e) (by decide) rfl (fun ls hl => ?_)
      refine lv_goto (tgt := 6) hx hb dJ7_fill_d0a16_19 (by decide) ?_
      exact ih h2 v0 v1 x3 v4 _ _ _ hw (lv_sub hl [1, 2, 0, 3] rfl) hf
set_option maxHeartbeats 4000000 in
theorem c_J7_fill_d0a16 {l : Launch} {s0 : State} {E : Ev} (G : Gl s0 E) {n : Nat} {z : Sh} {h : Hp} {v0 : Nat} {v1 : Int64} {h' : Hp} (hf : f_J7_fill_d0a16 n z h v0 v1 = some h') : Ct l s0 E yJ7_fill_d0a16 cJ7_fill_d0a16 5 none 0 0 [.ref v0, .long v1] z h h' (none) := by
  refine Ct.ofF G (by decide +kernel) (Nat.le_of_ble_eq_true rfl) ?_
  intro p e s m below meth c ls B hw hz hc0 hr hlk hl
  have B : Bd p s0 s E m c cJ7_fill_d0a16 5 RJ7 := B
  have hx := B.1
  have hb := B.2.1
  have hl : lv_has ls 5 [(0, .ref v0), (1, .long v1)] := hl
  unfold f_J7_fill_d0a16 at hf
  refine lv_iconst (v := 0) hx hb dJ7_fill_d0a16_0 (by decide) ?_
  refine lv_istore_n (lv' := [(3, .int 0), (0, .ref v0), (1, .long v1)]) hx hb dJ7_fill_d0a16_1 rfl hl (by decide) rfl (fun ls hl => ?_)
  refine lv_aload_n hx hb dJ7_fill_d0a16_2 rfl (lv_at hl 1 rfl) ?_
  obtain ⟨x1, e, hf⟩ := ob hf
  refine q_len e B hw dJ7_fill_d0a16_3 ?_
  refine lv_istore (lv' := [(4, .int x1), (3, .int 0), (0, .ref v0), (1, .long v1)]) hx hb dJ7_fill_d0a16_4 hl (by decide) rfl (fun ls hl => ?_)
  exact w_J7_fill_d0a16_6 G B hz hc0 hr hlk  n h v0 v1 0 x1 _ _ _ hw (lv_sub hl [2, 3, 1, 0] rfl) hf
/-! java/util/Arrays.fill([II)V -/
def f_J7_fill_53178_5 (n : Nat) (z : Sh) : Nat → Hp → Nat → Int32 → Int32 → Int32 → Option (Hp)
  | 0, _, _, _, _, _ => none
  | i + 1, h, v0, v1, v2, v3 =>
    if v3 ≤ v2 then
      some h
    else
      (stI z h v0 v2 v1).bind fun h2 =>
      (some (v2 + 1)).bind fun x3 =>
      (f_J7_fill_53178_5 n z i) h2 v0 v1 x3 v3
def f_J7_fill_53178 (n : Nat) (z : Sh) (h : Hp) (v0 : Nat) (v1 : Int32) : Option (Hp) :=
  (aL z v0).bind fun x1 =>
  f_J7_fill_53178_5 n z n h v0 v1 0 x1
set_option maxHeartbeats 4000000 in
theorem w_J7_fill_53178_5 {p : Program} {l : Launch} {e : Env} {s : State} {m : MethodId} {args : Array Value} {below : List Frame} {meth : Method} {c : Code} {s0 : State} {E : Ev} {z : Sh} {n : Nat} {h' : Hp} (G : Gl s0 E) (B : Bd p s0 s E m c cJ7_fill_53178 4 RJ7) (hz : s0.heap.size ≤ z.sz) (hc0 : s.heap.size + 0 = z.sz) (hr : meth.sig.returnType = none) (hlk : meth.locks = false) : ∀ (i : Nat), ∀ (h : Hp) (v0 : Nat) (v1 : Int32) (v2 : Int32) (v3 : Int32) (H : Heap) (locs : List Loc) (ls : Array Slot), Pw s0 s E z h H locs → lv_has ls 4 [(0, .ref v0), (1, .int v1), (2, .int v2), (3, .int v3)] → f_J7_fill_53178_5 n z i h v0 v1 v2 v3 = some h' → W p l e (rmO 0 0) s m args below meth c H locs 0 0 (Zt below s0 E z h' (none) args s 0 0) (F0 m 5 ls []) := by
  have hx := B.1
  have hb := B.2.1
  intro i
  induction i with
  | zero =>
    intro h v0 v1 v2 v3 H locs ls hw hl hf
    have hf := (f_J7_fill_53178_5.eq_1 ..).symm.trans hf
    cases hf
  | succ i ih =>
    intro h v0 v1 v2 v3 H locs ls hw hl hf
    have hf := (f_J7_fill_53178_5.eq_2 ..).symm.trans hf
    refine lv_iload_n hx hb dJ7_fill_53178_5 rfl (lv_at hl 2 rfl) ?_
    refine lv_iload_n hx hb dJ7_fill_53178_6 rfl (lv_at hl 3 rfl) ?_
    refine lv_icmp_ge (tgt := 20) hx hb dJ7_fill_53178_7 (by decide) (fun c1 => ?_) (fun c1 => ?_)
    · have hf := (if_pos c1).symm.trans hf
      obtain rfl := so hf
      exact q_vret B hw hz hc0 hr hlk dJ7_fill_53178_20
    · have hf := (if_neg c1).symm.trans hf
      refine lv_aload_n hx hb dJ7_fill_53178_10 rfl (lv_at hl 0 rfl) ?_
      refine lv_iload_n hx hb dJ7_fill_53178_11 rfl (lv_at hl 2 rfl) ?_
      refine lv_iload_n hx hb dJ7_fill_53178_12 rfl (lv_at hl 1 rfl) ?_
      obtain ⟨h2, e, hf⟩ := ob hf
      refine q_stI e B hw dJ7_fill_53178_13 (fun H locs hw => ?_)
      obtain ⟨x3, e, hf⟩ := ob hf
      refine lv_iinc (v := x3) (lv' := [(2, .int x3), (0, .ref v0), (1, .int v1), (3, .int v3)]) hx hb dJ7_fill_53178_14 hl (k := 2) rfl (Option.some.inj e) (by decide) rfl (fun ls hl => ?_)
      refine lv_goto (tgt := 5) hx hb dJ7_fill_53178_17 (by decide) ?_
      exact ih h2 v0 v1 x3 v3 _ _ _ hw (lv_sub hl [1, 2, 0, 3] rfl) hf
set_option maxHeartbeats 4000000 in
theorem c_J7_fill_53178 {l : Launch} {s0 : State} {E : Ev} (G : Gl s0 E) {n : Nat} {z : Sh} {h : Hp} {v0 : Nat} {v1 : Int32} {h' : Hp} (hf : f_J7_fill_53178 n z h v0 v1 = some h') : Ct l s0 E yJ7_fill_53178 cJ7_fill_53178 4 none 0 0 [.ref v0, .int v1] z h h' (none) := by
  refine Ct.ofF G (by decide +kernel) (Nat.le_of_ble_eq_true rfl) ?_
  intro p e s m below meth c ls B hw hz hc0 hr hlk hl
  have B : Bd p s0 s E m c cJ7_fill_53178 4 RJ7 := B
  have hx := B.1
  have hb := B.2.1
  have hl : lv_has ls 4 [(0, .ref v0), (1, .int v1)] := hl
  unfold f_J7_fill_53178 at hf
  refine lv_iconst (v := 0) hx hb dJ7_fill_53178_0 (by decide) ?_
  refine lv_istore_n (lv' := [(2, .int 0), (0, .ref v0), (1, .int v1)]) hx hb dJ7_fill_53178_1 rfl hl (by decide) rfl (fun ls hl => ?_)
  refine lv_aload_n hx hb dJ7_fill_53178_2 rfl (lv_at hl 1 rfl) ?_
  obtain ⟨x1, e, hf⟩ := ob hf
  refine q_len e B hw dJ7_fill_53178_3 ?_
  refine lv_istore_n (lv' := [(3, .int x1), (2, .int 0), (0, .ref v0), (1, .int v1)]) hx hb dJ7_fill_53178_4 rfl hl (by decide) rfl (fun ls hl => ?_)
  exact w_J7_fill_53178_5 G B hz hc0 hr hlk  n h v0 v1 0 x1 _ _ _ hw (lv_sub hl [2, 3, 1, 0] rfl) hf
/-! SecondLife.feed(IIIII)I -/
def f_X11_feed (n : Nat) (z : Sh) (h : Hp) (v0 : Nat) (v1 : Int32) (v2 : Int32) (v3 : Int32) (v4 : Int32) (v5 : Int32) : Option (Int32 × Hp) :=
  if z.K v0 = 11 then
    (gI z h 11 v0 1).bind fun x1 =>
    if (x1 + 20) ≤ 900 then
      (f_X11_tapeWord n z h v0 v1).bind fun h3 =>
      (f_X11_tapeWord n z h3 v0 v2).bind fun h4 =>
      (f_X11_tapeWord n z h4 v0 v3).bind fun h5 =>
      (f_X11_tapeWord n z h5 v0 v4).bind fun h6 =>
      (f_X11_tapeWord n z h6 v0 v5).bind fun h7 =>
      (gI z h7 11 v0 1).bind fun x8 =>
      some (x8, h7)
    else
      (f_X11_refused z h 5).bind fun x9 =>
      some (x9, h)
  else none
theorem k_X11_feed {n : Nat} {z : Sh} {h : Hp} {v0 : Nat} {v1 : Int32} {v2 : Int32} {v3 : Int32} {v4 : Int32} {v5 : Int32} {w : Int32 × Hp} (hf : f_X11_feed n z h v0 v1 v2 v3 v4 v5 = some w) : z.K v0 = 11 := by
  unfold f_X11_feed at hf
  exact (if_some hf).1
set_option maxHeartbeats 4000000 in
theorem c_X11_feed {l : Launch} {s0 : State} {E : Ev} (G : Gl s0 E) {n : Nat} {z : Sh} {h : Hp} {v0 : Nat} {v1 : Int32} {v2 : Int32} {v3 : Int32} {v4 : Int32} {v5 : Int32} {r : Int32} {h' : Hp} (hf : f_X11_feed n z h v0 v1 v2 v3 v4 v5 = some (r, h')) : Ct l s0 E yX11_feed cX11_feed 6 (some .int) 1 22 [.ref v0, .int v1, .int v2, .int v3, .int v4, .int v5] z h h' (some (.int r)) := by
  refine Ct.of G (by decide) (Nat.le_of_ble_eq_true rfl) ?_
  intro p e s m below meth c ls B hw hz hc0 hr hlk hl
  have B : Bd p s0 s E m c cX11_feed 6 RX11 := B
  have hx := B.1
  have hb := B.2.1
  have hl : lv_has ls 6 [(0, .ref v0), (1, .int v1), (2, .int v2), (3, .int v3), (4, .int v4), (5, .int v5)] := hl
  unfold f_X11_feed at hf
  obtain ⟨_, hf⟩ := if_some hf
  refine lv_aload_n hx hb dX11_feed_0 rfl (lv_at hl 0 rfl) ?_
  obtain ⟨x1, e, hf⟩ := ob hf
  refine q_getI e B hw fd_11_1.1 fd_11_1.2.1 fd_11_1.2.2.1 fd_11_1.2.2.2.1 fd_11_1.2.2.2.2 rfl tw_2_103 dX11_feed_1 ?_
  refine lv_bipush (v := 20) hx hb dX11_feed_4 (by decide) ?_
  refine lv_iadd hx hb dX11_feed_6 ?_
  refine lv_sipush (v := 900) hx hb dX11_feed_7 (by decide) ?_
  refine lv_icmp_le (tgt := 18) hx hb dX11_feed_10 (by decide) (fun c2 => ?_) (fun c2 => ?_)
  · have hf := (if_pos c2).symm.trans hf
    refine lv_aload_n hx hb dX11_feed_18 rfl (lv_at hl 0 rfl) ?_
    refine lv_iload_n hx hb dX11_feed_19 rfl (lv_at hl 1 rfl) ?_
    obtain ⟨h3, e, hf⟩ := ob hf
    refine q_callV (As := [.int v1]) (rest := []) (st1 := []) (c_X11_tapeWord G e) B hw hz hc0 (k_X11_tapeWord e) (by decide) (ci := 11) rfl rfl my_X11_tapeWord mv_X11_tapeWord tw_2_159 ⟨Nat.le_of_ble_eq_true rfl, Nat.le_of_ble_eq_true rfl⟩ ⟨Nat.zero_le _, Nat.zero_le _⟩ rfl hl.1 rfl rfl (Nat.le_of_ble_eq_true rfl) dX11_feed_20 (fun H locs hw => ?_)
    refine lv_aload_n hx hb dX11_feed_23 rfl (lv_at hl 0 rfl) ?_
    refine lv_iload_n hx hb dX11_feed_24 rfl (lv_at hl 2 rfl) ?_
    obtain ⟨h4, e, hf⟩ := ob hf
    refine q_callV (As := [.int v2]) (rest := []) (st1 := []) (c_X11_tapeWord G e) B hw hz hc0 (k_X11_tapeWord e) (by decide) (ci := 11) rfl rfl my_X11_tapeWord mv_X11_tapeWord tw_2_159 ⟨Nat.le_of_ble_eq_true rfl, Nat.le_of_ble_eq_true rfl⟩ ⟨Nat.zero_le _, Nat.zero_le _⟩ rfl hl.1 rfl rfl (Nat.le_of_ble_eq_true rfl) dX11_feed_25 (fun H locs hw => ?_)
    refine lv_aload_n hx hb dX11_feed_28 rfl (lv_at hl 0 rfl) ?_
    refine lv_iload_n hx hb dX11_feed_29 rfl (lv_at hl 3 rfl) ?_
    obtain ⟨h5, e, hf⟩ := ob hf
    refine q_callV (As := [.int v3]) (rest := []) (st1 := []) (c_X11_tapeWord G e) B hw hz hc0 (k_X11_tapeWord e) (by decide) (ci := 11) rfl rfl my_X11_tapeWord mv_X11_tapeWord tw_2_159 ⟨Nat.le_of_ble_eq_true rfl, Nat.le_of_ble_eq_true rfl⟩ ⟨Nat.zero_le _, Nat.zero_le _⟩ rfl hl.1 rfl rfl (Nat.le_of_ble_eq_true rfl) dX11_feed_30 (fun H locs hw => ?_)
    refine lv_aload_n hx hb dX11_feed_33 rfl (lv_at hl 0 rfl) ?_
    refine lv_iload hx hb dX11_feed_34 (lv_at hl 4 rfl) ?_
    obtain ⟨h6, e, hf⟩ := ob hf
    refine q_callV (As := [.int v4]) (rest := []) (st1 := []) (c_X11_tapeWord G e) B hw hz hc0 (k_X11_tapeWord e) (by decide) (ci := 11) rfl rfl my_X11_tapeWord mv_X11_tapeWord tw_2_159 ⟨Nat.le_of_ble_eq_true rfl, Nat.le_of_ble_eq_true rfl⟩ ⟨Nat.zero_le _, Nat.zero_le _⟩ rfl hl.1 rfl rfl (Nat.le_of_ble_eq_true rfl) dX11_feed_36 (fun H locs hw => ?_)
    refine lv_aload_n hx hb dX11_feed_39 rfl (lv_at hl 0 rfl) ?_
    refine lv_iload hx hb dX11_feed_40 (lv_at hl 5 rfl) ?_
    obtain ⟨h7, e, hf⟩ := ob hf
    refine q_callV (As := [.int v5]) (rest := []) (st1 := []) (c_X11_tapeWord G e) B hw hz hc0 (k_X11_tapeWord e) (by decide) (ci := 11) rfl rfl my_X11_tapeWord mv_X11_tapeWord tw_2_159 ⟨Nat.le_of_ble_eq_true rfl, Nat.le_of_ble_eq_true rfl⟩ ⟨Nat.zero_le _, Nat.zero_le _⟩ rfl hl.1 rfl rfl (Nat.le_of_ble_eq_true rfl) dX11_feed_42 (fun H locs hw => ?_)
    refine lv_aload_n hx hb dX11_feed_45 rfl (lv_at hl 0 rfl) ?_
    obtain ⟨x8, e, hf⟩ := ob hf
    refine q_getI e B hw fd_11_1.1 fd_11_1.2.1 fd_11_1.2.2.1 fd_11_1.2.2.2.1 fd_11_1.2.2.2.2 rfl tw_2_103 dX11_feed_46 ?_
    obtain ⟨rfl, rfl⟩ := so2 hf
    exact q_iret B hw hz hc0 hr hlk dX11_feed_49
  · have hf := (if_neg c2).symm.trans hf
    refine lv_iconst (v := 5) hx hb dX11_feed_13 (by decide) ?_
    obtain ⟨x9, e, hf⟩ := ob hf
    refine q_callS (As := [.int 5]) (rest := []) (st1 := [.int x9]) (c_X11_refused G e) B hw hz hc0 my_X11_refused mv_X11_refused tw_2_155 ⟨Nat.le_of_ble_eq_true rfl, Nat.le_of_ble_eq_true rfl⟩ ⟨Nat.zero_le _, Nat.zero_le _⟩ rfl hl.1 rfl rfl (Nat.le_of_ble_eq_true rfl) dX11_feed_14 (fun H locs hw => ?_)
    obtain ⟨rfl, rfl⟩ := so2 hf
    exact q_iret B hw hz hc0 hr hlk dX11_feed_17
/-! SecondLife.person(II)I -/
def f_X11_person_21 (z : Sh) (h : Hp) : Option (Int32) :=
  (f_X11_refused z h 2).bind fun x1 =>
  some x1
def f_X11_person (z : Sh) (h : Hp) (v0 : Nat) (v1 : Int32) (v2 : Int32) : Option (Int32) :=
  if z.K v0 = 11 then
    (gR z h 11 v0 4).bind fun a1 =>
    (f_X5_has z h a1 v1).bind fun x2 =>
    if x2 = 0 then
      f_X11_person_21 z h
    else
      if v2 < 0 then
        f_X11_person_21 z h
      else
        if v2 < 9 then
          (gR z h 11 v0 4).bind fun a6 =>
          (f_X5_part z h a6 v1 v2).bind fun x7 =>
          some x7
        else
          f_X11_person_21 z h
  else none
theorem k_X11_person {z : Sh} {h : Hp} {v0 : Nat} {v1 : Int32} {v2 : Int32} {w : Int32} (hf : f_X11_person z h v0 v1 v2 = some w) : z.K v0 = 11 := by
  unfold f_X11_person at hf
  exact (if_some hf).1
set_option maxHeartbeats 4000000 in
theorem w_X11_person_21 {p : Program} {l : Launch} {e : Env} {s : State} {m : MethodId} {args : Array Value} {below : List Frame} {meth : Method} {c : Code} {s0 : State} {E : Ev} {z : Sh} {h : Hp} {r : Int32} (G : Gl s0 E) (B : Bd p s0 s E m c cX11_person 3 RX11) (hz : s0.heap.size ≤ z.sz) (hc0 : s.heap.size + 0 = z.sz) (hr : meth.sig.returnType = (some .int)) (hlk : meth.locks = false) : ∀ (H : Heap) (locs : List Loc) (ls : Array Slot), Pw s0 s E z h H locs → lv_has ls 3 [] → f_X11_person_21 z h = some r → W p l e (rmO 1 23) s m args below meth c H locs 0 0 (Zt below s0 E z h (some (.int r)) args s 0 0) (F0 m 21 ls []) := by
  have hx := B.1
  have hb := B.2.1
  intro  H locs ls hw hl hf
  unfold f_X11_person_21 at hf
  refine lv_iconst (v := 2) hx hb dX11_person_21 (by decide) ?_
  obtain ⟨x1, e, hf⟩ := ob hf
  refine q_callS (As := [.int 2]) (rest := []) (st1 := [.int x1]) (c_X11_refused G e) B hw hz hc0 my_X11_refused mv_X11_refused tw_2_155 ⟨Nat.le_of_ble_eq_true rfl, Nat.le_of_ble_eq_true rfl⟩ ⟨Nat.zero_le _, Nat.zero_le _⟩ rfl hl.1 rfl rfl (Nat.le_of_ble_eq_true rfl) dX11_person_22 (fun H locs hw => ?_)
  obtain rfl := so hf
  exact q_iret B hw hz hc0 hr hlk dX11_person_25
set_option maxHeartbeats 4000000 in
theorem c_X11_person {l : Launch} {s0 : State} {E : Ev} (G : Gl s0 E) {z : Sh} {h : Hp} {v0 : Nat} {v1 : Int32} {v2 : Int32} {r : Int32} (hf : f_X11_person z h v0 v1 v2 = some r) : Ct l s0 E yX11_person cX11_person 3 (some .int) 1 23 [.ref v0, .int v1, .int v2] z h h (some (.int r)) := by
  refine Ct.of G (by decide) (Nat.le_of_ble_eq_true rfl) ?_
  intro p e s m below meth c ls B hw hz hc0 hr hlk hl
  have B : Bd p s0 s E m c cX11_person 3 RX11 := B
  have hx := B.1
  have hb := B.2.1
  have hl : lv_has ls 3 [(0, .ref v0), (1, .int v1), (2, .int v2)] := hl
  unfold f_X11_person at hf
  obtain ⟨_, hf⟩ := if_some hf
  refine lv_aload_n hx hb dX11_person_0 rfl (lv_at hl 0 rfl) ?_
  obtain ⟨a1, e, hf⟩ := ob hf
  refine q_getR e B hw fd_11_4.1 fd_11_4.2.1 fd_11_4.2.2.1 fd_11_4.2.2.2.1 fd_11_4.2.2.2.2 rfl tw_2_106 dX11_person_1 ?_
  refine lv_iload_n hx hb dX11_person_4 rfl (lv_at hl 1 rfl) ?_
  obtain ⟨x2, e, hf⟩ := ob hf
  refine q_callVN (As := [.int v1]) (rest := []) (st1 := [.int x2]) (c_X5_has G e) B hw hz hc0 (k_X5_has e) (by decide) (ci := 5) rfl rfl my_X5_has mv_X5_has tw_3_214 ⟨Nat.le_of_ble_eq_true rfl, Nat.le_of_ble_eq_true rfl⟩ ⟨Nat.zero_le _, Nat.zero_le _⟩ rfl hl.1 rfl rfl (Nat.le_of_ble_eq_true rfl) dX11_person_5 (fun H locs hw => ?_)
  refine lv_if_eq (tgt := 21) hx hb dX11_person_8 (by decide) (fun c3 => ?_) (fun c3 => ?_)
  · have hf := (if_pos c3).symm.trans hf
    exact w_X11_person_21 G B hz hc0 hr hlk   _ _ _ hw (lv_sub hl [] rfl) hf
  · have hf := (if_neg c3).symm.trans hf
    refine lv_iload_n hx hb dX11_person_11 rfl (lv_at hl 2 rfl) ?_
    refine lv_if_lt (tgt := 21) hx hb dX11_person_12 (by decide) (fun c4 => ?_) (fun c4 => ?_)
    · have hf := (if_pos c4).symm.trans hf
      exact w_X11_person_21 G B hz hc0 hr hlk   _ _ _ hw (lv_sub hl [] rfl) hf
    · have hf := (if_neg c4).symm.trans hf
      refine lv_iload_n hx hb dX11_person_15 rfl (lv_at hl 2 rfl) ?_
      refine lv_bipush (v := 9) hx hb dX11_person_16 (by decide) ?_
      refine lv_icmp_lt (tgt := 26) hx hb dX11_person_18 (by decide) (fun c5 => ?_) (fun c5 => ?_)
      · have hf := (if_pos c5).symm.trans hf
        refine lv_aload_n hx hb dX11_person_26 rfl (lv_at hl 0 rfl) ?_
        obtain ⟨a6, e, hf⟩ := ob hf
        refine q_getR e B hw fd_11_4.1 fd_11_4.2.1 fd_11_4.2.2.1 fd_11_4.2.2.2.1 fd_11_4.2.2.2.2 rfl tw_2_106 dX11_person_27 ?_
        refine lv_iload_n hx hb dX11_person_30 rfl (lv_at hl 1 rfl) ?_
        refine lv_iload_n hx hb dX11_person_31 rfl (lv_at hl 2 rfl) ?_
        obtain ⟨x7, e, hf⟩ := ob hf
        refine q_callVN (As := [.int v1, .int v2]) (rest := []) (st1 := [.int x7]) (c_X5_part G e) B hw hz hc0 (k_X5_part e) (by decide) (ci := 5) rfl rfl my_X5_part mv_X5_part tw_3_218 ⟨Nat.le_of_ble_eq_true rfl, Nat.le_of_ble_eq_true rfl⟩ ⟨Nat.zero_le _, Nat.zero_le _⟩ rfl hl.1 rfl rfl (Nat.le_of_ble_eq_true rfl) dX11_person_32 (fun H locs hw => ?_)
        obtain rfl := so hf
        exact q_iret B hw hz hc0 hr hlk dX11_person_35
      · have hf := (if_neg c5).symm.trans hf
        exact w_X11_person_21 G B hz hc0 hr hlk   _ _ _ hw (lv_sub hl [] rfl) hf
/-! SecondLife.image(I)I -/
def f_X11_image_22 (z : Sh) (h : Hp) : Option (Int32 × Hp) :=
  (f_X11_refused z h 2).bind fun x1 =>
  some (x1, h)
def f_X11_image (z : Sh) (h : Hp) (v0 : Nat) (v1 : Int32) : Option (Int32 × Hp) :=
  if z.K v0 = 11 then
    if v1 < 0 then
      f_X11_image_22 z h
    else
      (gR z h 11 v0 7).bind fun a2 =>
      (aL z a2).bind fun x3 =>
      if x3 ≤ v1 then
        f_X11_image_22 z h
      else
        (gR z h 11 v0 8).bind fun a5 =>
        (aL z a5).bind fun x6 =>
        if v1 < x6 then
          (gR z h 11 v0 8).bind fun a8 =>
          (ldR z h 18 a8 v1).bind fun a9 =>
          (gR z h 11 v0 7).bind fun a10 =>
          (gR z h 11 v0 3).bind fun a11 =>
          (stR z h 19 8 a10 v1 a11).bind fun h12 =>
          (gR z h12 11 v0 4).bind fun a13 =>
          (f_X5_copy z h12 a9 a13).bind fun h14 =>
          some ((0 : Int32), h14)
        else
          f_X11_image_22 z h
  else none
theorem k_X11_image {z : Sh} {h : Hp} {v0 : Nat} {v1 : Int32} {w : Int32 × Hp} (hf : f_X11_image z h v0 v1 = some w) : z.K v0 = 11 := by
  unfold f_X11_image at hf
  exact (if_some hf).1
set_option maxHeartbeats 4000000 in
theorem w_X11_image_22 {p : Program} {l : Launch} {e : Env} {s : State} {m : MethodId} {args : Array Value} {below : List Frame} {meth : Method} {c : Code} {s0 : State} {E : Ev} {z : Sh} {r : Int32} {h' : Hp} (G : Gl s0 E) (B : Bd p s0 s E m c cX11_image 3 RX11) (hz : s0.heap.size ≤ z.sz) (hc0 : s.heap.size + 0 = z.sz) (hr : meth.sig.returnType = (some .int)) (hlk : meth.locks = false) : ∀ (h : Hp) (H : Heap) (locs : List Loc) (ls : Array Slot), Pw s0 s E z h H locs → lv_has ls 3 [] → f_X11_image_22 z h = some (r, h') → W p l e (rmO 2 81) s m args below meth c H locs 0 0 (Zt below s0 E z h' (some (.int r)) args s 0 0) (F0 m 22 ls []) := by
  have hx := B.1
  have hb := B.2.1
  intro h H locs ls hw hl hf
  unfold f_X11_image_22 at hf
  refine lv_iconst (v := 2) hx hb dX11_image_22 (by decide) ?_
  obtain ⟨x1, e, hf⟩ := ob hf
  refine q_callS (As := [.int 2]) (rest := []) (st1 := [.int x1]) (c_X11_refused G e) B hw hz hc0 my_X11_refused mv_X11_refused tw_2_155 ⟨Nat.le_of_ble_eq_true rfl, Nat.le_of_ble_eq_true rfl⟩ ⟨Nat.zero_le _, Nat.zero_le _⟩ rfl hl.1 rfl rfl (Nat.le_of_ble_eq_true rfl) dX11_image_23 (fun H locs hw => ?_)
  obtain ⟨rfl, rfl⟩ := so2 hf
  exact q_iret B hw hz hc0 hr hlk dX11_image_26
set_option maxHeartbeats 4000000 in
theorem c_X11_image {l : Launch} {s0 : State} {E : Ev} (G : Gl s0 E) {z : Sh} {h : Hp} {v0 : Nat} {v1 : Int32} {r : Int32} {h' : Hp} (hf : f_X11_image z h v0 v1 = some (r, h')) : Ct l s0 E yX11_image cX11_image 3 (some .int) 2 81 [.ref v0, .int v1] z h h' (some (.int r)) := by
  refine Ct.of G (by decide) (Nat.le_of_ble_eq_true rfl) ?_
  intro p e s m below meth c ls B hw hz hc0 hr hlk hl
  have B : Bd p s0 s E m c cX11_image 3 RX11 := B
  have hx := B.1
  have hb := B.2.1
  have hl : lv_has ls 3 [(0, .ref v0), (1, .int v1)] := hl
  unfold f_X11_image at hf
  obtain ⟨_, hf⟩ := if_some hf
  refine lv_iload_n hx hb dX11_image_0 rfl (lv_at hl 1 rfl) ?_
  refine lv_if_lt (tgt := 22) hx hb dX11_image_1 (by decide) (fun c1 => ?_) (fun c1 => ?_)
  · have hf := (if_pos c1).symm.trans hf
    exact w_X11_image_22 G B hz hc0 hr hlk  h _ _ _ hw (lv_sub hl [] rfl) hf
  · have hf := (if_neg c1).symm.trans hf
    refine lv_iload_n hx hb dX11_image_4 rfl (lv_at hl 1 rfl) ?_
    refine lv_aload_n hx hb dX11_image_5 rfl (lv_at hl 0 rfl) ?_
    obtain ⟨a2, e, hf⟩ := ob hf
    refine q_getR e B hw fd_11_7.1 fd_11_7.2.1 fd_11_7.2.2.1 fd_11_7.2.2.2.1 fd_11_7.2.2.2.2 rfl tw_2_109 dX11_image_6 ?_
    obtain ⟨x3, e, hf⟩ := ob hf
    refine q_len e B hw dX11_image_9 ?_
    refine lv_icmp_ge (tgt := 22) hx hb dX11_image_10 (by decide) (fun c4 => ?_) (fun c4 => ?_)
    · have hf := (if_pos c4).symm.trans hf
      exact w_X11_image_22 G B hz hc0 hr hlk  h _ _ _ hw (lv_sub hl [] rfl) hf
    · have hf := (if_neg c4).symm.trans hf
      refine lv_iload_n hx hb dX11_image_13 rfl (lv_at hl 1 rfl) ?_
      refine lv_aload_n hx hb dX11_image_14 rfl (lv_at hl 0 rfl) ?_
      obtain ⟨a5, e, hf⟩ := ob hf
      refine q_getR e B hw fd_11_8.1 fd_11_8.2.1 fd_11_8.2.2.1 fd_11_8.2.2.2.1 fd_11_8.2.2.2.2 rfl tw_2_110 dX11_image_15 ?_
      obtain ⟨x6, e, hf⟩ := ob hf
      refine q_len e B hw dX11_image_18 ?_
      refine lv_icmp_lt (tgt := 27) hx hb dX11_image_19 (by decide) (fun c7 => ?_) (fun c7 => ?_)
      · have hf := (if_pos c7).symm.trans hf
        refine lv_aload_n hx hb dX11_image_27 rfl (lv_at hl 0 rfl) ?_
        obtain ⟨a8, e, hf⟩ := ob hf
        refine q_getR e B hw fd_11_8.1 fd_11_8.2.1 fd_11_8.2.2.1 fd_11_8.2.2.2.1 fd_11_8.2.2.2.2 rfl tw_2_110 dX11_image_28 ?_
        refine lv_iload_n hx hb dX11_image_31 rfl (lv_at hl 1 rfl) ?_
        obtain ⟨a9, e, hf⟩ := ob hf
        refine q_ldR (t0 := 5) e B hw (by decide) (by decide) rfl dX11_image_32 ?_
        refine lv_astore_n (lv' := [(2, .ref a9), (0, .ref v0), (1, .int v1)]) hx hb dX11_image_33 rfl hl (by decide) rfl (fun ls hl => ?_)
        refine lv_aload_n hx hb dX11_image_34 rfl (lv_at hl 0 rfl) ?_
        refine lv_ifnonnull (tgt := 43) hx hb dX11_image_35 (by decide) ?_
        refine lv_aload_n hx hb dX11_image_43 rfl (lv_at hl 1 rfl) ?_
        obtain ⟨a10, e, hf⟩ := ob hf
        refine q_getR e B hw fd_11_7.1 fd_11_7.2.1 fd_11_7.2.2.1 fd_11_7.2.2.2.1 fd_11_7.2.2.2.2 rfl tw_2_109 dX11_image_44 ?_
        refine lv_iload_n hx hb dX11_image_47 rfl (lv_at hl 2 rfl) ?_
        refine lv_aload_n hx hb dX11_image_48 rfl (lv_at hl 1 rfl) ?_
        obtain ⟨a11, e, hf⟩ := ob hf
        refine q_getR e B hw fd_11_3.1 fd_11_3.2.1 fd_11_3.2.2.1 fd_11_3.2.2.2.1 fd_11_3.2.2.2.2 rfl tw_2_105 dX11_image_49 ?_
        obtain ⟨h12, e, hf⟩ := ob hf
        refine q_stR (t0 := 6) e B hw (by decide) (by decide) (by decide) rfl rfl dX11_image_52 (fun H locs hw => ?_)
        refine lv_aload_n hx hb dX11_image_53 rfl (lv_at hl 0 rfl) ?_
        refine lv_aload_n hx hb dX11_image_54 rfl (lv_at hl 1 rfl) ?_
        obtain ⟨a13, e, hf⟩ := ob hf
        refine q_getR e B hw fd_11_4.1 fd_11_4.2.1 fd_11_4.2.2.1 fd_11_4.2.2.2.1 fd_11_4.2.2.2.2 rfl tw_2_106 dX11_image_55 ?_
        obtain ⟨h14, e, hf⟩ := ob hf
        refine q_callVN (As := [.ref a13]) (rest := []) (st1 := []) (c_X5_copy G e) B hw hz hc0 (k_X5_copy e) (by decide) (ci := 5) rfl rfl my_X5_copy mv_X5_copy tw_4_29 ⟨Nat.le_of_ble_eq_true rfl, Nat.le_of_ble_eq_true rfl⟩ ⟨Nat.zero_le _, Nat.zero_le _⟩ rfl hl.1 rfl rfl (Nat.le_of_ble_eq_true rfl) dX11_image_58 (fun H locs hw => ?_)
        refine lv_iconst (v := 0) hx hb dX11_image_61 (by decide) ?_
        obtain ⟨rfl, rfl⟩ := so2 hf
        exact q_iret B hw hz hc0 hr hlk dX11_image_62
      · have hf := (if_neg c7).symm.trans hf
        exact w_X11_image_22 G B hz hc0 hr hlk  h _ _ _ hw (lv_sub hl [] rfl) hf
/-! SecondLife.restore(I)I -/
def f_X11_restore_49 (z : Sh) (h : Hp) : Option (Int32 × Hp) :=
  (f_X11_refused z h 5).bind fun x1 =>
  some (x1, h)
def f_X11_restore_22 (z : Sh) (h : Hp) : Option (Int32 × Hp) :=
  (f_X11_refused z h 2).bind fun x1 =>
  some (x1, h)
def f_X11_restore (z : Sh) (h : Hp) (v0 : Nat) (v1 : Int32) : Option (Int32 × Hp) :=
  if z.K v0 = 11 then
    if v1 < 0 then
      f_X11_restore_22 z h
    else
      (gR z h 11 v0 7).bind fun a2 =>
      (aL z a2).bind fun x3 =>
      if x3 ≤ v1 then
        f_X11_restore_22 z h
      else
        (gR z h 11 v0 8).bind fun a5 =>
        (aL z a5).bind fun x6 =>
        if v1 < x6 then
          (gR z h 11 v0 7).bind fun a8 =>
          (ldN z h 19 a8 v1).bind fun o9 =>
          (match o9 with
          | none =>
            (gR z h 11 v0 8).bind fun a11 =>
            (ldR z h 18 a11 v1).bind fun a12 =>
            f_X11_restore_49 z h
          | some a10 =>
            (gR z h 11 v0 8).bind fun a13 =>
            (ldR z h 18 a13 v1).bind fun a14 =>
            (pR z h 11 v0 3 (some a10)).bind fun h15 =>
            (gR z h15 11 v0 4).bind fun a16 =>
            (f_X5_copy z h15 a16 a14).bind fun h17 =>
            (gR z h17 11 v0 6).bind fun a18 =>
            (f_X4_forget z h17 a18).bind fun h19 =>
            some ((0 : Int32), h19))
        else
          f_X11_restore_22 z h
  else none
theorem k_X11_restore {z : Sh} {h : Hp} {v0 : Nat} {v1 : Int32} {w : Int32 × Hp} (hf : f_X11_restore z h v0 v1 = some w) : z.K v0 = 11 := by
  unfold f_X11_restore at hf
  exact (if_some hf).1
set_option maxHeartbeats 4000000 in
theorem w_X11_restore_49 {p : Program} {l : Launch} {e : Env} {s : State} {m : MethodId} {args : Array Value} {below : List Frame} {meth : Method} {c : Code} {s0 : State} {E : Ev} {z : Sh} {r : Int32} {h' : Hp} (G : Gl s0 E) (B : Bd p s0 s E m c cX11_restore 4 RX11) (hz : s0.heap.size ≤ z.sz) (hc0 : s.heap.size + 0 = z.sz) (hr : meth.sig.returnType = (some .int)) (hlk : meth.locks = false) : ∀ (h : Hp) (H : Heap) (locs : List Loc) (ls : Array Slot), Pw s0 s E z h H locs → lv_has ls 4 [] → f_X11_restore_49 z h = some (r, h') → W p l e (rmO 2 81) s m args below meth c H locs 0 0 (Zt below s0 E z h' (some (.int r)) args s 0 0) (F0 m 49 ls []) := by
  have hx := B.1
  have hb := B.2.1
  intro h H locs ls hw hl hf
  unfold f_X11_restore_49 at hf
  refine lv_iconst (v := 5) hx hb dX11_restore_49 (by decide) ?_
  obtain ⟨x1, e, hf⟩ := ob hf
  refine q_callS (As := [.int 5]) (rest := []) (st1 := [.int x1]) (c_X11_refused G e) B hw hz hc0 my_X11_refused mv_X11_refused tw_2_155 ⟨Nat.le_of_ble_eq_true rfl, Nat.le_of_ble_eq_true rfl⟩ ⟨Nat.zero_le _, Nat.zero_le _⟩ rfl hl.1 rfl rfl (Nat.le_of_ble_eq_true rfl) dX11_restore_50 (fun H locs hw => ?_)
  obtain ⟨rfl, rfl⟩ := so2 hf
  exact q_iret B hw hz hc0 hr hlk dX11_restore_53
set_option maxHeartbeats 4000000 in
theorem w_X11_restore_22 {p : Program} {l : Launch} {e : Env} {s : State} {m : MethodId} {args : Array Value} {below : List Frame} {meth : Method} {c : Code} {s0 : State} {E : Ev} {z : Sh} {r : Int32} {h' : Hp} (G : Gl s0 E) (B : Bd p s0 s E m c cX11_restore 4 RX11) (hz : s0.heap.size ≤ z.sz) (hc0 : s.heap.size + 0 = z.sz) (hr : meth.sig.returnType = (some .int)) (hlk : meth.locks = false) : ∀ (h : Hp) (H : Heap) (locs : List Loc) (ls : Array Slot), Pw s0 s E z h H locs → lv_has ls 4 [] → f_X11_restore_22 z h = some (r, h') → W p l e (rmO 2 81) s m args below meth c H locs 0 0 (Zt below s0 E z h' (some (.int r)) args s 0 0) (F0 m 22 ls []) := by
  have hx := B.1
  have hb := B.2.1
  intro h H locs ls hw hl hf
  unfold f_X11_restore_22 at hf
  refine lv_iconst (v := 2) hx hb dX11_restore_22 (by decide) ?_
  obtain ⟨x1, e, hf⟩ := ob hf
  refine q_callS (As := [.int 2]) (rest := []) (st1 := [.int x1]) (c_X11_refused G e) B hw hz hc0 my_X11_refused mv_X11_refused tw_2_155 ⟨Nat.le_of_ble_eq_true rfl, Nat.le_of_ble_eq_true rfl⟩ ⟨Nat.zero_le _, Nat.zero_le _⟩ rfl hl.1 rfl rfl (Nat.le_of_ble_eq_true rfl) dX11_restore_23 (fun H locs hw => ?_)
  obtain ⟨rfl, rfl⟩ := so2 hf
  exact q_iret B hw hz hc0 hr hlk dX11_restore_26
set_option maxHeartbeats 4000000 in
theorem c_X11_restore {l : Launch} {s0 : State} {E : Ev} (G : Gl s0 E) {z : Sh} {h : Hp} {v0 : Nat} {v1 : Int32} {r : Int32} {h' : Hp} (hf : f_X11_restore z h v0 v1 = some (r, h')) : Ct l s0 E yX11_restore cX11_restore 4 (some .int) 2 81 [.ref v0, .int v1] z h h' (some (.int r)) := by
  refine Ct.of G (by decide) (Nat.le_of_ble_eq_true rfl) ?_
  intro p e s m below meth c ls B hw hz hc0 hr hlk hl
  have B : Bd p s0 s E m c cX11_restore 4 RX11 := B
  have hx := B.1
  have hb := B.2.1
  have hl : lv_has ls 4 [(0, .ref v0), (1, .int v1)] := hl
  unfold f_X11_restore at hf
  obtain ⟨_, hf⟩ := if_some hf
  refine lv_iload_n hx hb dX11_restore_0 rfl (lv_at hl 1 rfl) ?_
  refine lv_if_lt (tgt := 22) hx hb dX11_restore_1 (by decide) (fun c1 => ?_) (fun c1 => ?_)
  · have hf := (if_pos c1).symm.trans hf
    exact w_X11_restore_22 G B hz hc0 hr hlk  h _ _ _ hw (lv_sub hl [] rfl) hf
  · have hf := (if_neg c1).symm.trans hf
    refine lv_iload_n hx hb dX11_restore_4 rfl (lv_at hl 1 rfl) ?_
    refine lv_aload_n hx hb dX11_restore_5 rfl (lv_at hl 0 rfl) ?_
    obtain ⟨a2, e, hf⟩ := ob hf
    refine q_getR e B hw fd_11_7.1 fd_11_7.2.1 fd_11_7.2.2.1 fd_11_7.2.2.2.1 fd_11_7.2.2.2.2 rfl tw_2_109 dX11_restore_6 ?_
    obtain ⟨x3, e, hf⟩ := ob hf
    refine q_len e B hw dX11_restore_9 ?_
    refine lv_icmp_ge (tgt := 22) hx hb dX11_restore_10 (by decide) (fun c4 => ?_) (fun c4 => ?_)
    · have hf := (if_pos c4).symm.trans hf
      exact w_X11_restore_22 G B hz hc0 hr hlk  h _ _ _ hw (lv_sub hl [] rfl) hf
    · have hf := (if_neg c4).symm.trans hf
      refine lv_iload_n hx hb dX11_restore_13 rfl (lv_at hl 1 rfl) ?_
      refine lv_aload_n hx hb dX11_restore_14 rfl (lv_at hl 0 rfl) ?_
      obtain ⟨a5, e, hf⟩ := ob hf
      refine q_getR e B hw fd_11_8.1 fd_11_8.2.1 fd_11_8.2.2.1 fd_11_8.2.2.2.1 fd_11_8.2.2.2.2 rfl tw_2_110 dX11_restore_15 ?_
      obtain ⟨x6, e, hf⟩ := ob hf
      refine q_len e B hw dX11_restore_18 ?_
      refine lv_icmp_lt (tgt := 27) hx hb dX11_restore_19 (by decide) (fun c7 => ?_) (fun c7 => ?_)
      · have hf := (if_pos c7).symm.trans hf
        refine lv_aload_n hx hb dX11_restore_27 rfl (lv_at hl 0 rfl) ?_
        obtain ⟨a8, e, hf⟩ := ob hf
        refine q_getR e B hw fd_11_7.1 fd_11_7.2.1 fd_11_7.2.2.1 fd_11_7.2.2.2.1 fd_11_7.2.2.2.2 rfl tw_2_109 dX11_restore_28 ?_
        refine lv_iload_n hx hb dX11_restore_31 rfl (lv_at hl 1 rfl) ?_
        obtain ⟨o9, e, hf⟩ := ob hf
        refine q_ldN (t0 := 6) e B hw (by decide) (by decide) rfl dX11_restore_32 ?_
        rcases o9 with _ | a10
        · refine lv_astore_nN (lv' := [(2, .null), (0, .ref v0), (1, .int v1)]) hx hb dX11_restore_33 rfl hl (by decide) rfl (fun ls hl => ?_)
          refine lv_aload_n hx hb dX11_restore_34 rfl (lv_at hl 1 rfl) ?_
          obtain ⟨a11, e, hf⟩ := ob hf
          refine q_getR e B hw fd_11_8.1 fd_11_8.2.1 fd_11_8.2.2.1 fd_11_8.2.2.2.1 fd_11_8.2.2.2.2 rfl tw_2_110 dX11_restore_35 ?_
          refine lv_iload_n hx hb dX11_restore_38 rfl (lv_at hl 2 rfl) ?_
          obtain ⟨a12, e, hf⟩ := ob hf
          refine q_ldR (t0 := 5) e B hw (by decide) (by decide) rfl dX11_restore_39 ?_
          refine lv_astore_n (lv' := [(3, .ref a12), (2, .null), (0, .ref v0), (1, .int v1)]) hx hb dX11_restore_40 rfl hl (by decide) rfl (fun ls hl => ?_)
          refine lv_aload_nN hx hb dX11_restore_41 rfl (lv_at hl 1 rfl) ?_
          refine lv_ifnullN (tgt := 49) hx hb dX11_restore_42 (by decide) ?_
          exact w_X11_restore_49 G B hz hc0 hr hlk  h _ _ _ hw (lv_sub hl [] rfl) hf
        · refine lv_astore_n (lv' := [(2, .ref a10), (0, .ref v0), (1, .int v1)]) hx hb dX11_restore_33 rfl hl (by decide) rfl (fun ls hl => ?_)
          refine lv_aload_n hx hb dX11_restore_34 rfl (lv_at hl 1 rfl) ?_
          obtain ⟨a13, e, hf⟩ := ob hf
          refine q_getR e B hw fd_11_8.1 fd_11_8.2.1 fd_11_8.2.2.1 fd_11_8.2.2.2.1 fd_11_8.2.2.2.2 rfl tw_2_110 dX11_restore_35 ?_
          refine lv_iload_n hx hb dX11_restore_38 rfl (lv_at hl 2 rfl) ?_
          obtain ⟨a14, e, hf⟩ := ob hf
          refine q_ldR (t0 := 5) e B hw (by decide) (by decide) rfl dX11_restore_39 ?_
          refine lv_astore_n (lv' := [(3, .ref a14), (2, .ref a10), (0, .ref v0), (1, .int v1)]) hx hb dX11_restore_40 rfl hl (by decide) rfl (fun ls hl => ?_)
          refine lv_aload_n hx hb dX11_restore_41 rfl (lv_at hl 1 rfl) ?_
          refine lv_ifnull hx hb dX11_restore_42 ?_
          refine lv_aload_n hx hb dX11_restore_45 rfl (lv_at hl 0 rfl) ?_
          refine lv_ifnonnull (tgt := 54) hx hb dX11_restore_46 (by decide) ?_
          refine lv_aload_n hx hb dX11_restore_54 rfl (lv_at hl 2 rfl) ?_
          refine lv_aload_n hx hb dX11_restore_55 rfl (lv_at hl 1 rfl) ?_
          obtain ⟨h15, e, hf⟩ := ob hf
          refine q_putR e B hw fd_11_3.1 fd_11_3.2.1 fd_11_3.2.2.1 fd_11_3.2.2.2.1 fd_11_3.2.2.2.2 rfl rfl (tyX11_ok 3 (by decide)) (Or.inl ⟨_, rfl⟩) tyX11 tyX11_ok nmX11 tw_2_105 dX11_restore_56 (fun H locs hw => ?_)
          refine lv_aload_n hx hb dX11_restore_59 rfl (lv_at hl 2 rfl) ?_
          obtain ⟨a16, e, hf⟩ := ob hf
          refine q_getR e B hw fd_11_4.1 fd_11_4.2.1 fd_11_4.2.2.1 fd_11_4.2.2.2.1 fd_11_4.2.2.2.2 rfl tw_2_106 dX11_restore_60 ?_
          refine lv_aload_n hx hb dX11_restore_63 rfl (lv_at hl 0 rfl) ?_
          obtain ⟨h17, e, hf⟩ := ob hf
          refine q_callVN (As := [.ref a14]) (rest := []) (st1 := []) (c_X5_copy G e) B hw hz hc0 (k_X5_copy e) (by decide) (ci := 5) rfl rfl my_X5_copy mv_X5_copy tw_4_29 ⟨Nat.le_of_ble_eq_true rfl, Nat.le_of_ble_eq_true rfl⟩ ⟨Nat.zero_le _, Nat.zero_le _⟩ rfl hl.1 rfl rfl (Nat.le_of_ble_eq_true rfl) dX11_restore_64 (fun H locs hw => ?_)
          refine lv_aload_n hx hb dX11_restore_67 rfl (lv_at hl 2 rfl) ?_
          obtain ⟨a18, e, hf⟩ := ob hf
          refine q_getR e B hw fd_11_6.1 fd_11_6.2.1 fd_11_6.2.2.1 fd_11_6.2.2.2.1 fd_11_6.2.2.2.2 rfl tw_2_108 dX11_restore_68 ?_
          obtain ⟨h19, e, hf⟩ := ob hf
          refine q_callVN (As := []) (rest := []) (st1 := []) (c_X4_forget G e) B hw hz hc0 (k_X4_forget e) (by decide) (ci := 4) rfl rfl my_X4_forget mv_X4_forget tw_3_202 ⟨Nat.le_of_ble_eq_true rfl, Nat.le_of_ble_eq_true rfl⟩ ⟨Nat.zero_le _, Nat.zero_le _⟩ rfl hl.1 rfl rfl (Nat.le_of_ble_eq_true rfl) dX11_restore_71 (fun H locs hw => ?_)
          refine lv_iconst (v := 0) hx hb dX11_restore_74 (by decide) ?_
          obtain ⟨rfl, rfl⟩ := so2 hf
          exact q_iret B hw hz hc0 hr hlk dX11_restore_75
      · have hf := (if_neg c7).symm.trans hf
        exact w_X11_restore_22 G B hz hc0 hr hlk  h _ _ _ hw (lv_sub hl [] rfl) hf
