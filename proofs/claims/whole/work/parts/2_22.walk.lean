/-! SecondLife$People.atRest(I)Z -/
def f_X5_atRest_58 (n : Nat) (z : Sh) (h : Hp) (k7 : Nat → Int32 → Int32 → Int32 → Option (Int32)) (v0 : Nat) (v1 : Int32) (v2 : Int32) (v3 : Int32) (v4 : Int32) (u0 : Int32) : Option (Int32) :=
  if v4 = u0 then
    (some (v3 + 1)).bind fun x2 =>
    k7 v0 v1 v2 x2
  else
    some 0
def f_X5_atRest_50 (n : Nat) (z : Sh) (h : Hp) (k7 : Nat → Int32 → Int32 → Int32 → Option (Int32)) (v0 : Nat) (v1 : Int32) (v2 : Int32) (v3 : Int32) (v4 : Int32) (u0 : Int32) (u1 : Int32) : Option (Int32) :=
  if u0 < u1 then
    f_X5_atRest_58 n z h k7 v0 v1 v2 v3 v4 0
  else
    f_X5_atRest_58 n z h k7 v0 v1 v2 v3 v4 1
def f_X5_atRest_29 (n : Nat) (z : Sh) (h : Hp) (k7 : Nat → Int32 → Int32 → Int32 → Option (Int32)) (v0 : Nat) (v1 : Int32) (v2 : Int32) (v3 : Int32) (u0 : Int32) : Option (Int32) :=
  (f_X5_part z h v0 v3 7).bind fun x1 =>
  if u0 = 0 then
    f_X5_atRest_50 n z h k7 v0 v1 v2 v3 u0 v2 x1
  else
    f_X5_atRest_50 n z h k7 v0 v1 v2 v3 u0 (v2 - 1) x1
def f_X5_atRest_7 (n : Nat) (z : Sh) (h : Hp) : Nat → Nat → Int32 → Int32 → Int32 → Option (Int32)
  | 0, _, _, _, _ => none
  | i + 1, v0, v1, v2, v3 =>
    (gI z h 5 v0 1).bind fun x1 =>
    if x1 ≤ v3 then
      some 1
    else
      if ((v1 >>> (v3 &&& 31)) &&& 1) = 1 then
        f_X5_atRest_29 n z h (f_X5_atRest_7 n z h i) v0 v1 v2 v3 1
      else
        f_X5_atRest_29 n z h (f_X5_atRest_7 n z h i) v0 v1 v2 v3 0
def f_X5_atRest (n : Nat) (z : Sh) (h : Hp) (v0 : Nat) (v1 : Int32) : Option (Int32) :=
  if z.K v0 = 5 then
    (f_J6_bitCount_0f7a4 z h v1).bind fun x1 =>
    f_X5_atRest_7 n z h n v0 v1 x1 0
  else none
theorem k_X5_atRest {n : Nat} {z : Sh} {h : Hp} {v0 : Nat} {v1 : Int32} {w : Int32} (hf : f_X5_atRest n z h v0 v1 = some w) : z.K v0 = 5 := by
  unfold f_X5_atRest at hf
  exact (if_some hf).1
set_option maxHeartbeats 4000000 in
theorem w_X5_atRest_58 {p : Program} {l : Launch} {e : Env} {s : State} {m : MethodId} {args : Array Value} {below : List Frame} {meth : Method} {c : Code} {s0 : State} {E : Ev} {z : Sh} {h : Hp} {n : Nat} {k7 : Nat → Int32 → Int32 → Int32 → Option (Int32)} {r : Int32} (G : Gl s0 E) (B : Bd p s0 s E m c cX5_atRest 6 RX5) (hz : s0.heap.size ≤ z.sz) (hc0 : s.heap.size + 0 = z.sz) (hr : meth.sig.returnType = (some .boolean)) (hlk : meth.locks = false) (hk7 : ∀ (v0 : Nat) (v1 : Int32) (v2 : Int32) (v3 : Int32) (H : Heap) (locs : List Loc) (ls : Array Slot), Pw s0 s E z h H locs → lv_has ls 6 [(0, .ref v0), (1, .int v1), (2, .int v2), (3, .int v3)] → k7 v0 v1 v2 v3 = some r → W p l e (rmO 1 23) s m args below meth c H locs 0 0 (Zt below s0 E z h (some (.int r)) args s 0 0) (F0 m 7 ls [])) : ∀ (v0 : Nat) (v1 : Int32) (v2 : Int32) (v3 : Int32) (v4 : Int32) (u0 : Int32) (H : Heap) (locs : List Loc) (ls : Array Slot), Pw s0 s E z h H locs → lv_has ls 6 [(0, .ref v0), (1, .int v1), (2, .int v2), (3, .int v3), (4, .int v4)] → f_X5_atRest_58 n z h k7 v0 v1 v2 v3 v4 u0 = some r → W p l e (rmO 1 23) s m args below meth c H locs 0 0 (Zt below s0 E z h (some (.int r)) args s 0 0) (F0 m 58 ls [.int u0]) := by
  have hx := B.1
  have hb := B.2.1
  intro v0 v1 v2 v3 v4 u0 H locs ls hw hl hf
  unfold f_X5_atRest_58 at hf
  refine lv_istore (lv' := [(5, .int u0), (0, .ref v0), (1, .int v1), (2, .int v2), (3, .int v3), (4, .int v4)]) hx hb dX5_atRest_58 hl (by decide) rfl (fun ls hl => ?_)
  refine lv_iload hx hb dX5_atRest_60 (lv_at hl 5 rfl) ?_
  refine lv_iload hx hb dX5_atRest_62 (lv_at hl 0 rfl) ?_
  refine lv_icmp_eq (tgt := 69) hx hb dX5_atRest_64 (by decide) (fun c1 => ?_) (fun c1 => ?_)
  · have hf := (if_pos c1).symm.trans hf
    obtain ⟨x2, e, hf⟩ := ob hf
    refine lv_iinc (v := x2) (lv' := [(3, .int x2), (5, .int u0), (0, .ref v0), (1, .int v1), (2, .int v2), (4, .int v4)]) hx hb dX5_atRest_69 hl (k := 4) rfl (Option.some.inj e) (by decide) rfl (fun ls hl => ?_)
    refine lv_goto (tgt := 7) hx hb dX5_atRest_72 (by decide) ?_
    exact hk7 v0 v1 v2 x2 _ _ _ hw (lv_sub hl [2, 3, 4, 0] rfl) hf
  · have hf := (if_neg c1).symm.trans hf
    refine lv_iconst (v := 0) hx hb dX5_atRest_67 (by decide) ?_
    obtain rfl := so hf
    exact q_zret (Or.inl rfl) B hw hz hc0 hr hlk dX5_atRest_68
set_option maxHeartbeats 4000000 in
theorem w_X5_atRest_50 {p : Program} {l : Launch} {e : Env} {s : State} {m : MethodId} {args : Array Value} {below : List Frame} {meth : Method} {c : Code} {s0 : State} {E : Ev} {z : Sh} {h : Hp} {n : Nat} {k7 : Nat → Int32 → Int32 → Int32 → Option (Int32)} {r : Int32} (G : Gl s0 E) (B : Bd p s0 s E m c cX5_atRest 6 RX5) (hz : s0.heap.size ≤ z.sz) (hc0 : s.heap.size + 0 = z.sz) (hr : meth.sig.returnType = (some .boolean)) (hlk : meth.locks = false) (hk7 : ∀ (v0 : Nat) (v1 : Int32) (v2 : Int32) (v3 : Int32) (H : Heap) (locs : List Loc) (ls : Array Slot), Pw s0 s E z h H locs → lv_has ls 6 [(0, .ref v0), (1, .int v1), (2, .int v2), (3, .int v3)] → k7 v0 v1 v2 v3 = some r → W p l e (rmO 1 23) s m args below meth c H locs 0 0 (Zt below s0 E z h (some (.int r)) args s 0 0) (F0 m 7 ls [])) : ∀ (v0 : Nat) (v1 : Int32) (v2 : Int32) (v3 : Int32) (v4 : Int32) (u0 : Int32) (u1 : Int32) (H : Heap) (locs : List Loc) (ls : Array Slot), Pw s0 s E z h H locs → lv_has ls 6 [(0, .ref v0), (1, .int v1), (2, .int v2), (3, .int v3), (4, .int v4)] → f_X5_atRest_50 n z h k7 v0 v1 v2 v3 v4 u0 u1 = some r → W p l e (rmO 1 23) s m args below meth c H locs 0 0 (Zt below s0 E z h (some (.int r)) args s 0 0) (F0 m 50 ls [.int u0, .int u1]) := by
  have hx := B.1
  have hb := B.2.1
  intro v0 v1 v2 v3 v4 u0 u1 H locs ls hw hl hf
  unfold f_X5_atRest_50 at hf
  refine lv_icmp_gt (tgt := 57) hx hb dX5_atRest_50 (by decide) (fun c1 => ?_) (fun c1 => ?_)
  · have hf := (if_pos c1).symm.trans hf
    refine lv_iconst (v := 0) hx hb dX5_atRest_57 (by decide) ?_
    exact w_X5_atRest_58 G B hz hc0 hr hlk hk7 v0 v1 v2 v3 v4 0 _ _ _ hw (lv_sub hl [0, 1, 2, 3, 4] rfl) hf
  · have hf := (if_neg c1).symm.trans hf
    refine lv_iconst (v := 1) hx hb dX5_atRest_53 (by decide) ?_
    refine lv_goto (tgt := 58) hx hb dX5_atRest_54 (by decide) ?_
    exact w_X5_atRest_58 G B hz hc0 hr hlk hk7 v0 v1 v2 v3 v4 1 _ _ _ hw (lv_sub hl [0, 1, 2, 3, 4] rfl) hf
set_option maxHeartbeats 4000000 in
theorem w_X5_atRest_29 {p : Program} {l : Launch} {e : Env} {s : State} {m : MethodId} {args : Array Value} {below : List Frame} {meth : Method} {c : Code} {s0 : State} {E : Ev} {z : Sh} {h : Hp} {n : Nat} {k7 : Nat → Int32 → Int32 → Int32 → Option (Int32)} {r : Int32} (G : Gl s0 E) (B : Bd p s0 s E m c cX5_atRest 6 RX5) (hz : s0.heap.size ≤ z.sz) (hc0 : s.heap.size + 0 = z.sz) (hr : meth.sig.returnType = (some .boolean)) (hlk : meth.locks = false) (hk7 : ∀ (v0 : Nat) (v1 : Int32) (v2 : Int32) (v3 : Int32) (H : Heap) (locs : List Loc) (ls : Array Slot), Pw s0 s E z h H locs → lv_has ls 6 [(0, .ref v0), (1, .int v1), (2, .int v2), (3, .int v3)] → k7 v0 v1 v2 v3 = some r → W p l e (rmO 1 23) s m args below meth c H locs 0 0 (Zt below s0 E z h (some (.int r)) args s 0 0) (F0 m 7 ls [])) : ∀ (v0 : Nat) (v1 : Int32) (v2 : Int32) (v3 : Int32) (u0 : Int32) (H : Heap) (locs : List Loc) (ls : Array Slot), Pw s0 s E z h H locs → lv_has ls 6 [(0, .ref v0), (1, .int v1), (2, .int v2), (3, .int v3)] → f_X5_atRest_29 n z h k7 v0 v1 v2 v3 u0 = some r → W p l e (rmO 1 23) s m args below meth c H locs 0 0 (Zt below s0 E z h (some (.int r)) args s 0 0) (F0 m 29 ls [.int u0]) := by
  have hx := B.1
  have hb := B.2.1
  intro v0 v1 v2 v3 u0 H locs ls hw hl hf
  unfold f_X5_atRest_29 at hf
  refine lv_istore (lv' := [(4, .int u0), (0, .ref v0), (1, .int v1), (2, .int v2), (3, .int v3)]) hx hb dX5_atRest_29 hl (by decide) rfl (fun ls hl => ?_)
  refine lv_aload_n hx hb dX5_atRest_31 rfl (lv_at hl 1 rfl) ?_
  refine lv_iload_n hx hb dX5_atRest_32 rfl (lv_at hl 4 rfl) ?_
  refine lv_bipush (v := 7) hx hb dX5_atRest_33 (by decide) ?_
  obtain ⟨x1, e, hf⟩ := ob hf
  refine q_callV (As := [.int v3, .int 7]) (rest := []) (st1 := [.int x1]) (c_X5_part G e) B hw hz hc0 (k_X5_part e) (by decide) (ci := 5) rfl rfl my_X5_part mv_X5_part tw_4_123 ⟨Nat.le_of_ble_eq_true rfl, Nat.le_of_ble_eq_true rfl⟩ ⟨Nat.zero_le _, Nat.zero_le _⟩ rfl hl.1 rfl rfl (Nat.le_of_ble_eq_true rfl) dX5_atRest_35 (fun H locs hw => ?_)
  refine lv_iload hx hb dX5_atRest_38 (lv_at hl 0 rfl) ?_
  refine lv_if_eq (tgt := 49) hx hb dX5_atRest_40 (by decide) (fun c2 => ?_) (fun c2 => ?_)
  · have hf := (if_pos c2).symm.trans hf
    refine lv_iload_n hx hb dX5_atRest_49 rfl (lv_at hl 3 rfl) ?_
    exact w_X5_atRest_50 G B hz hc0 hr hlk hk7 v0 v1 v2 v3 u0 v2 x1 _ _ _ hw (lv_sub hl [1, 2, 3, 4, 0] rfl) hf
  · have hf := (if_neg c2).symm.trans hf
    refine lv_iload_n hx hb dX5_atRest_43 rfl (lv_at hl 3 rfl) ?_
    refine lv_iconst (v := 1) hx hb dX5_atRest_44 (by decide) ?_
    refine lv_isub hx hb dX5_atRest_45 ?_
    refine lv_goto (tgt := 50) hx hb dX5_atRest_46 (by decide) ?_
    exact w_X5_atRest_50 G B hz hc0 hr hlk hk7 v0 v1 v2 v3 u0 (v2 - 1) x1 _ _ _ hw (lv_sub hl [1, 2, 3, 4, 0] rfl) hf
set_option maxHeartbeats 4000000 in
theorem w_X5_atRest_7 {p : Program} {l : Launch} {e : Env} {s : State} {m : MethodId} {args : Array Value} {below : List Frame} {meth : Method} {c : Code} {s0 : State} {E : Ev} {z : Sh} {h : Hp} {n : Nat} {r : Int32} (G : Gl s0 E) (B : Bd p s0 s E m c cX5_atRest 6 RX5) (hz : s0.heap.size ≤ z.sz) (hc0 : s.heap.size + 0 = z.sz) (hr : meth.sig.returnType = (some .boolean)) (hlk : meth.locks = false) : ∀ (i : Nat), ∀ (v0 : Nat) (v1 : Int32) (v2 : Int32) (v3 : Int32) (H : Heap) (locs : List Loc) (ls : Array Slot), Pw s0 s E z h H locs → lv_has ls 6 [(0, .ref v0), (1, .int v1), (2, .int v2), (3, .int v3)] → f_X5_atRest_7 n z h i v0 v1 v2 v3 = some r → W p l e (rmO 1 23) s m args below meth c H locs 0 0 (Zt below s0 E z h (some (.int r)) args s 0 0) (F0 m 7 ls []) := by
  have hx := B.1
  have hb := B.2.1
  intro i
  induction i with
  | zero =>
    intro v0 v1 v2 v3 H locs ls hw hl hf
    have hf := (f_X5_atRest_7.eq_1 ..).symm.trans hf
    cases hf
  | succ i ih =>
    intro v0 v1 v2 v3 H locs ls hw hl hf
    have hf := (f_X5_atRest_7.eq_2 ..).symm.trans hf
    refine lv_iload_n hx hb dX5_atRest_7 rfl (lv_at hl 3 rfl) ?_
    refine lv_aload_n hx hb dX5_atRest_8 rfl (lv_at hl 0 rfl) ?_
    obtain ⟨x1, e, hf⟩ := ob hf
    refine q_getI e B hw fd_5_1.1 fd_5_1.2.1 fd_5_1.2.2.1 fd_5_1.2.2.2.1 fd_5_1.2.2.2.2 rfl tw_1_151 dX5_atRest_9 ?_
    refine lv_icmp_ge (tgt := 75) hx hb dX5_atRest_12 (by decide) (fun c2 => ?_) (fun c2 => ?_)
    · have hf := (if_pos c2).symm.trans hf
      refine lv_iconst (v := 1) hx hb dX5_atRest_75 (by decide) ?_
      obtain rfl := so hf
      exact q_zret (Or.inr rfl) B hw hz hc0 hr hlk dX5_atRest_76
    · have hf := (if_neg c2).symm.trans hf
      refine lv_iload_n hx hb dX5_atRest_15 rfl (lv_at hl 1 rfl) ?_
      refine lv_iload_n hx hb dX5_atRest_16 rfl (lv_at hl 3 rfl) ?_
      refine lv_ishr hx hb dX5_atRest_17 ?_
      refine lv_iconst (v := 1) hx hb dX5_atRest_18 (by decide) ?_
      refine lv_iand hx hb dX5_atRest_19 ?_
      refine lv_iconst (v := 1) hx hb dX5_atRest_20 (by decide) ?_
      refine lv_icmp_ne (tgt := 28) hx hb dX5_atRest_21 (by decide) (fun c3 => ?_) (fun c3 => ?_)
      · have hf := (if_neg c3).symm.trans hf
        refine lv_iconst (v := 0) hx hb dX5_atRest_28 (by decide) ?_
        exact w_X5_atRest_29 G B hz hc0 hr hlk ih v0 v1 v2 v3 0 _ _ _ hw (lv_sub hl [0, 1, 2, 3] rfl) hf
      · have hf := (if_pos c3).symm.trans hf
        refine lv_iconst (v := 1) hx hb dX5_atRest_24 (by decide) ?_
        refine lv_goto (tgt := 29) hx hb dX5_atRest_25 (by decide) ?_
        exact w_X5_atRest_29 G B hz hc0 hr hlk ih v0 v1 v2 v3 1 _ _ _ hw (lv_sub hl [0, 1, 2, 3] rfl) hf
set_option maxHeartbeats 4000000 in
theorem c_X5_atRest {l : Launch} {s0 : State} {E : Ev} (G : Gl s0 E) {n : Nat} {z : Sh} {h : Hp} {v0 : Nat} {v1 : Int32} {r : Int32} (hf : f_X5_atRest n z h v0 v1 = some r) : Ct l s0 E yX5_atRest cX5_atRest 6 (some .boolean) 1 23 [.ref v0, .int v1] z h h (some (.int r)) := by
  refine Ct.of G (by decide) (Nat.le_of_ble_eq_true rfl) ?_
  intro p e s m below meth c ls B hw hz hc0 hr hlk hl
  have B : Bd p s0 s E m c cX5_atRest 6 RX5 := B
  have hx := B.1
  have hb := B.2.1
  have hl : lv_has ls 6 [(0, .ref v0), (1, .int v1)] := hl
  unfold f_X5_atRest at hf
  obtain ⟨_, hf⟩ := if_some hf
  refine lv_iload_n hx hb dX5_atRest_0 rfl (lv_at hl 1 rfl) ?_
  obtain ⟨x1, e, hf⟩ := ob hf
  refine q_callS (As := [.int v1]) (rest := []) (st1 := [.int x1]) (c_J6_bitCount_0f7a4 G e) B hw hz hc0 my_J6_bitCount_0f7a4 mv_J6_bitCount_0f7a4 tw_5_189 ⟨Nat.le_of_ble_eq_true rfl, Nat.le_of_ble_eq_true rfl⟩ ⟨Nat.zero_le _, Nat.zero_le _⟩ rfl hl.1 rfl rfl (Nat.le_of_ble_eq_true rfl) dX5_atRest_1 (fun H locs hw => ?_)
  refine lv_istore_n (lv' := [(2, .int x1), (0, .ref v0), (1, .int v1)]) hx hb dX5_atRest_4 rfl hl (by decide) rfl (fun ls hl => ?_)
  refine lv_iconst (v := 0) hx hb dX5_atRest_5 (by decide) ?_
  refine lv_istore_n (lv' := [(3, .int 0), (2, .int x1), (0, .ref v0), (1, .int v1)]) hx hb dX5_atRest_6 rfl hl (by decide) rfl (fun ls hl => ?_)
  exact w_X5_atRest_7 G B hz hc0 hr hlk  n v0 v1 x1 0 _ _ _ hw (lv_sub hl [2, 3, 1, 0] rfl) hf
/-! SecondLife$Reader.<init>()V -/
def f_X6_init (z : Sh) (h : Hp) (v0 : Nat) : Option (Hp × Sh) :=
  if z.K v0 = 6 then
    gd2 z <|
    (pI z h 6 v0 0 0).bind fun h1 =>
    (pI z h1 6 v0 1 (-1)).bind fun h2 =>
    (nwA z h2 13 0).bind fun (a3, h4, z5) =>
    gd2 z5 <|
    (pR z5 h4 6 v0 2 (some a3)).bind fun h6 =>
    (pI z5 h6 6 v0 3 0).bind fun h7 =>
    (pI z5 h7 6 v0 4 0).bind fun h8 =>
    (pI z5 h8 6 v0 5 0).bind fun h9 =>
    (pI z5 h9 6 v0 6 3).bind fun h10 =>
    (pI z5 h10 6 v0 7 0).bind fun h11 =>
    (nwO z5 h11 8).bind fun (a12, h13, z14) =>
    gd2 z14 <|
    (f_X8_init z14 h13 a12).bind fun (h15, z16) =>
    gd2 z16 <|
    (pR z16 h15 6 v0 8 (some a12)).bind fun h17 =>
    (pZ z16 h17 6 v0 9 0).bind fun h18 =>
    (nwA z16 h18 14 900).bind fun (a19, h20, z21) =>
    gd2 z21 <|
    (pR z21 h20 6 v0 10 (some a19)).bind fun h22 =>
    (pI z21 h22 6 v0 11 0).bind fun h23 =>
    some (h23, z21)
  else none
theorem k_X6_init {z : Sh} {h : Hp} {v0 : Nat} {w : Hp × Sh} (hf : f_X6_init z h v0 = some w) : z.K v0 = 6 := by
  unfold f_X6_init at hf
  exact (if_some hf).1
theorem mo_X6_init {z : Sh} {h : Hp} {v0 : Nat} {h' : Hp} {zE : Sh} (hf : f_X6_init z h v0 = some (h', zE)) : z.sz ≤ zE.sz ∧ z.sl ≤ zE.sl := by
  unfold f_X6_init at hf
  exact (gd2_some (if_some hf).2).1
set_option maxHeartbeats 4000000 in
theorem c_X6_init {l : Launch} {s0 : State} {E : Ev} (G : Gl s0 E) {z : Sh} {h : Hp} {v0 : Nat} {h' : Hp} {zE : Sh} (hf : f_X6_init z h v0 = some (h', zE)) : Ca l s0 E yX6_init cX6_init 1 none 2 44 [.ref v0] z zE h h' (none) := by
  refine Ca.of G (by decide +kernel) (Nat.le_of_ble_eq_true rfl) (mo_X6_init hf) ?_
  intro p e s m below meth c ls B hw hM hr hlk hnm0 hl
  have B : Bd p s0 s E m c cX6_init 1 RX6 := B
  have hx := B.1
  have hb := B.2.1
  have hl : lv_has ls 1 [(0, .ref v0)] := hl
  have hin : meth.name = "<init>" := hnm0
  unfold f_X6_init at hf
  obtain ⟨_, hf⟩ := if_some hf
  obtain ⟨_, hf⟩ := gd2_some hf
  refine lv_aload_n hx hb dX6_init_0 rfl (lv_at hl 0 rfl) ?_
  refine q_obj B hl.1 tw_1_36 tw_1_29 tw_1_30 (Nat.le_of_ble_eq_true rfl) (Nat.le_of_ble_eq_true rfl) dX6_init_1 ?_
  refine lv_aload_n hx hb dX6_init_4 rfl (lv_at hl 0 rfl) ?_
  refine lv_iconst (v := 0) hx hb dX6_init_5 (by decide) ?_
  obtain ⟨h1, e, hf⟩ := ob hf
  refine q_putI e B hw fd_6_0.1 fd_6_0.2.1 fd_6_0.2.2.1 fd_6_0.2.2.2.1 fd_6_0.2.2.2.2 rfl rfl (tyX6_ok 0 (by decide)) tyX6 tyX6_ok nmX6 tw_1_103 dX6_init_6 (fun H locs hw => ?_)
  refine lv_aload_n hx hb dX6_init_9 rfl (lv_at hl 0 rfl) ?_
  refine lv_iconst (v := (-1)) hx hb dX6_init_10 (by decide) ?_
  obtain ⟨h2, e, hf⟩ := ob hf
  refine q_putI e B hw fd_6_1.1 fd_6_1.2.1 fd_6_1.2.2.1 fd_6_1.2.2.2.1 fd_6_1.2.2.2.2 rfl rfl (tyX6_ok 1 (by decide)) tyX6 tyX6_ok nmX6 tw_1_105 dX6_init_11 (fun H locs hw => ?_)
  refine lv_aload_n hx hb dX6_init_14 rfl (lv_at hl 0 rfl) ?_
  refine lv_iconst (v := 0) hx hb dX6_init_15 (by decide) ?_
  obtain ⟨⟨a3, h4, z5⟩, e, hf⟩ := ob hf
  obtain ⟨hg, hf⟩ := gd2_some hf
  refine q_newA (atype := .byte) (ty := .byte) (t0 := 0) e hg B hw hM (by decide) rfl rfl rfl (cfn_13 E _ _) arn_13 tw_1_101 dX6_init_16 (fun H locs hw hM => ?_)
  obtain ⟨h6, e, hf⟩ := ob hf
  refine q_putR e B hw fd_6_2.1 fd_6_2.2.1 fd_6_2.2.2.1 fd_6_2.2.2.2.1 fd_6_2.2.2.2.2 rfl rfl (tyX6_ok 2 (by decide)) (Or.inr ⟨_, rfl⟩) tyX6 tyX6_ok nmX6 tw_1_107 dX6_init_18 (fun H locs hw => ?_)
  refine lv_aload_n hx hb dX6_init_21 rfl (lv_at hl 0 rfl) ?_
  refine lv_iconst (v := 0) hx hb dX6_init_22 (by decide) ?_
  obtain ⟨h7, e, hf⟩ := ob hf
  refine q_putI e B hw fd_6_3.1 fd_6_3.2.1 fd_6_3.2.2.1 fd_6_3.2.2.2.1 fd_6_3.2.2.2.2 rfl rfl (tyX6_ok 3 (by decide)) tyX6 tyX6_ok nmX6 tw_1_108 dX6_init_23 (fun H locs hw => ?_)
  refine lv_aload_n hx hb dX6_init_26 rfl (lv_at hl 0 rfl) ?_
  refine lv_iconst (v := 0) hx hb dX6_init_27 (by decide) ?_
  obtain ⟨h8, e, hf⟩ := ob hf
  refine q_putI e B hw fd_6_4.1 fd_6_4.2.1 fd_6_4.2.2.1 fd_6_4.2.2.2.1 fd_6_4.2.2.2.2 rfl rfl (tyX6_ok 4 (by decide)) tyX6 tyX6_ok nmX6 tw_1_109 dX6_init_28 (fun H locs hw => ?_)
  refine lv_aload_n hx hb dX6_init_31 rfl (lv_at hl 0 rfl) ?_
  refine lv_iconst (v := 0) hx hb dX6_init_32 (by decide) ?_
  obtain ⟨h9, e, hf⟩ := ob hf
  refine q_putI e B hw fd_6_5.1 fd_6_5.2.1 fd_6_5.2.2.1 fd_6_5.2.2.2.1 fd_6_5.2.2.2.2 rfl rfl (tyX6_ok 5 (by decide)) tyX6 tyX6_ok nmX6 tw_1_110 dX6_init_33 (fun H locs hw => ?_)
  refine lv_aload_n hx hb dX6_init_36 rfl (lv_at hl 0 rfl) ?_
  refine lv_iconst (v := 3) hx hb dX6_init_37 (by decide) ?_
  obtain ⟨h10, e, hf⟩ := ob hf
  refine q_putI e B hw fd_6_6.1 fd_6_6.2.1 fd_6_6.2.2.1 fd_6_6.2.2.2.1 fd_6_6.2.2.2.2 rfl rfl (tyX6_ok 6 (by decide)) tyX6 tyX6_ok nmX6 tw_1_111 dX6_init_38 (fun H locs hw => ?_)
  refine lv_aload_n hx hb dX6_init_41 rfl (lv_at hl 0 rfl) ?_
  refine lv_iconst (v := 0) hx hb dX6_init_42 (by decide) ?_
  obtain ⟨h11, e, hf⟩ := ob hf
  refine q_putI e B hw fd_6_7.1 fd_6_7.2.1 fd_6_7.2.2.1 fd_6_7.2.2.2.1 fd_6_7.2.2.2.2 rfl rfl (tyX6_ok 7 (by decide)) tyX6 tyX6_ok nmX6 tw_1_112 dX6_init_43 (fun H locs hw => ?_)
  refine lv_aload_n hx hb dX6_init_46 rfl (lv_at hl 0 rfl) ?_
  obtain ⟨⟨a12, h13, z14⟩, e, hf⟩ := ob hf
  obtain ⟨hg, hf⟩ := gd2_some hf
  refine q_newO e hg B hw hM (by decide) (ci := 8) rfl rfl tyX8 tyX8_ok dfX8 tw_1_37 tw_1_38 tw_1_3 dX6_init_47 (fun H locs hw hM => ?_)
  refine lv_dup hx hb dX6_init_50 rfl ?_
  obtain ⟨⟨h15, z16⟩, e, hf⟩ := ob hf
  obtain ⟨hg, hf⟩ := gd2_some hf
  refine q_callINA (As := []) (rest := [.ref a12, .ref v0]) (c_X8_init G e) (mo_X8_init e) hg B hw hM rfl my_X8_init mv_X8_init tw_1_39 ⟨Nat.le_of_ble_eq_true rfl, Nat.le_of_ble_eq_true rfl⟩ rfl hl.1 rfl (Nat.le_of_ble_eq_true rfl) dX6_init_51 (fun H locs hw hM => ?_)
  obtain ⟨h17, e, hf⟩ := ob hf
  refine q_putR e B hw fd_6_8.1 fd_6_8.2.1 fd_6_8.2.2.1 fd_6_8.2.2.2.1 fd_6_8.2.2.2.2 rfl rfl (tyX6_ok 8 (by decide)) (Or.inl ⟨_, rfl⟩) tyX6 tyX6_ok nmX6 tw_1_113 dX6_init_54 (fun H locs hw => ?_)
  refine lv_aload_n hx hb dX6_init_57 rfl (lv_at hl 0 rfl) ?_
  refine lv_iconst (v := 0) hx hb dX6_init_58 (by decide) ?_
  obtain ⟨h18, e, hf⟩ := ob hf
  refine q_putZ e B hw fd_6_9.1 fd_6_9.2.1 fd_6_9.2.2.1 fd_6_9.2.2.2.1 fd_6_9.2.2.2.2 rfl rfl (tyX6_ok 9 (by decide)) tyX6 tyX6_ok nmX6 tw_1_114 dX6_init_59 (fun H locs hw => ?_)
  refine lv_aload_n hx hb dX6_init_62 rfl (lv_at hl 0 rfl) ?_
  refine lv_sipush (v := 900) hx hb dX6_init_63 (by decide) ?_
  obtain ⟨⟨a19, h20, z21⟩, e, hf⟩ := ob hf
  obtain ⟨hg, hf⟩ := gd2_some hf
  refine q_newA (atype := .int) (ty := .int) (t0 := 1) e hg B hw hM (by decide) rfl rfl rfl (cfn_14 E _ _) arn_14 tw_1_102 dX6_init_66 (fun H locs hw hM => ?_)
  obtain ⟨h22, e, hf⟩ := ob hf
  refine q_putRF e B hw hin fd_6_10.1 fd_6_10.2.1 fd_6_10.2.2.1 fd_6_10.2.2.2.1 fd_6_10.2.2.2.2 rfl rfl rfl (tyX6_ok 10 (by decide)) (Or.inr ⟨_, rfl⟩) tyX6 tyX6_ok nmX6 tw_1_115 dX6_init_68 (fun H locs hw => ?_)
  refine lv_aload_n hx hb dX6_init_71 rfl (lv_at hl 0 rfl) ?_
  refine lv_iconst (v := 0) hx hb dX6_init_72 (by decide) ?_
  obtain ⟨h23, e, hf⟩ := ob hf
  refine q_putI e B hw fd_6_11.1 fd_6_11.2.1 fd_6_11.2.2.1 fd_6_11.2.2.2.1 fd_6_11.2.2.2.2 rfl rfl (tyX6_ok 11 (by decide)) tyX6 tyX6_ok nmX6 tw_1_116 dX6_init_73 (fun H locs hw => ?_)
  obtain ⟨rfl, rfl⟩ := so2 hf
  exact q_vret B hw hM.hz hM.hc0 hr hlk dX6_init_76
/-! SecondLife$Reckoner.tell([I)I -/
def f_X7_tell_189 (n : Nat) (z : Sh) (k4 : Hp → Nat → Nat → Int32 → Int32 → Option (Int32 × Hp)) (h : Hp) (v0 : Nat) (v1 : Nat) (v2 : Int32) (v3 : Int32) : Option (Int32 × Hp) :=
  (some (v3 + 1)).bind fun x1 =>
  k4 h v0 v1 v2 x1
def f_X7_tell_150 (n : Nat) (z : Sh) (k4 : Hp → Nat → Nat → Int32 → Int32 → Option (Int32 × Hp)) (h : Hp) (v0 : Nat) (v1 : Nat) (v2 : Int32) (v3 : Int32) (u0 : Int32) (u1 : Int32) (u2 : Nat) : Option (Int32 × Hp) :=
  (stI z h u2 u1 u0).bind fun h1 =>
  f_X7_tell_189 n z k4 h1 v0 v1 v2 v3
def f_X7_tell_60 (n : Nat) (z : Sh) (k4 : Hp → Nat → Nat → Int32 → Int32 → Option (Int32 × Hp)) (h : Hp) (v0 : Nat) (v1 : Nat) (v2 : Int32) (v3 : Int32) (u0 : Int32) (u1 : Int32) (u2 : Nat) : Option (Int32 × Hp) :=
  (stI z h u2 u1 u0).bind fun h1 =>
  (some (v2 + 1)).bind fun x2 =>
  f_X7_tell_189 n z k4 h1 v0 v1 x2 v3
def f_X7_tell_27 (n : Nat) (z : Sh) (k4 : Hp → Nat → Nat → Int32 → Int32 → Option (Int32 × Hp)) (h : Hp) (v0 : Nat) (v1 : Nat) (v2 : Int32) (v3 : Int32) (v4 : Int32) : Option (Int32 × Hp) :=
  (gR z h 7 v0 1).bind fun a1 =>
  (aL z a1).bind fun x2 =>
  if x2 ≤ v2 then
    f_X7_tell_189 n z k4 h v0 v1 v2 v3
  else
    (gR z h 7 v0 1).bind fun a4 =>
    if v4 < 0 then
      (f_X7_factAt z h v0 ((-11) - v4)).bind fun x6 =>
      f_X7_tell_60 n z k4 h v0 v1 v2 v3 x6 v2 a4
    else
      f_X7_tell_60 n z k4 h v0 v1 v2 v3 v4 v2 a4
def f_X7_tell_4 (n : Nat) (z : Sh) : Nat → Hp → Nat → Nat → Int32 → Int32 → Option (Int32 × Hp)
  | 0, _, _, _, _, _ => none
  | i + 1, h, v0, v1, v2, v3 =>
    (aL z v1).bind fun x1 =>
    if x1 ≤ v3 then
      (gR z h 7 v0 1).bind fun a3 =>
      (ldI z h a3 0).bind fun x4 =>
      some (x4, h)
    else
      (ldI z h v1 v3).bind fun x5 =>
      if 0 ≤ x5 then
        f_X7_tell_27 n z (f_X7_tell_4 n z i) h v0 v1 v2 v3 x5
      else
        if (-11) < x5 then
          if x5 = (-9) then
            if v2 < 1 then
              f_X7_tell_189 n z (f_X7_tell_4 n z i) h v0 v1 v2 v3
            else
              (gR z h 7 v0 1).bind fun a30 =>
              (gR z h 7 v0 1).bind fun a31 =>
              (ldI z h a31 (v2 - 1)).bind fun x32 =>
              (stI z h a30 (v2 - 1) (1 - x32)).bind fun h33 =>
              f_X7_tell_189 n z (f_X7_tell_4 n z i) h33 v0 v1 v2 v3
          else
            if x5 = (-10) then
              if v2 < 3 then
                f_X7_tell_189 n z (f_X7_tell_4 n z i) h v0 v1 v2 v3
              else
                (some (v2 + (-2))).bind fun x20 =>
                (gR z h 7 v0 1).bind fun a21 =>
                (gR z h 7 v0 1).bind fun a22 =>
                (ldI z h a22 (x20 - 1)).bind fun x23 =>
                if x23 = 0 then
                  (gR z h 7 v0 1).bind fun a25 =>
                  (ldI z h a25 (x20 + 1)).bind fun x26 =>
                  f_X7_tell_150 n z (f_X7_tell_4 n z i) h v0 v1 x20 v3 x26 (x20 - 1) a21
                else
                  (gR z h 7 v0 1).bind fun a27 =>
                  (ldI z h a27 x20).bind fun x28 =>
                  f_X7_tell_150 n z (f_X7_tell_4 n z i) h v0 v1 x20 v3 x28 (x20 - 1) a21
            else
              if v2 < 2 then
                f_X7_tell_189 n z (f_X7_tell_4 n z i) h v0 v1 v2 v3
              else
                (some (v2 + (-1))).bind fun x11 =>
                (gR z h 7 v0 1).bind fun a12 =>
                (gR z h 7 v0 1).bind fun a13 =>
                (ldI z h a13 (x11 - 1)).bind fun x14 =>
                (gR z h 7 v0 1).bind fun a15 =>
                (ldI z h a15 x11).bind fun x16 =>
                (f_X7_joined z h x5 x14 x16).bind fun x17 =>
                (stI z h a12 (x11 - 1) x17).bind fun h18 =>
                f_X7_tell_189 n z (f_X7_tell_4 n z i) h18 v0 v1 x11 v3
        else
          f_X7_tell_27 n z (f_X7_tell_4 n z i) h v0 v1 v2 v3 x5
def f_X7_tell (n : Nat) (z : Sh) (h : Hp) (v0 : Nat) (v1 : Nat) : Option (Int32 × Hp) :=
  if z.K v0 = 7 then
    f_X7_tell_4 n z n h v0 v1 0 0
  else none
theorem k_X7_tell {n : Nat} {z : Sh} {h : Hp} {v0 : Nat} {v1 : Nat} {w : Int32 × Hp} (hf : f_X7_tell n z h v0 v1 = some w) : z.K v0 = 7 := by
  unfold f_X7_tell at hf
  exact (if_some hf).1
set_option maxHeartbeats 4000000 in
theorem w_X7_tell_189 {p : Program} {l : Launch} {e : Env} {s : State} {m : MethodId} {args : Array Value} {below : List Frame} {meth : Method} {c : Code} {s0 : State} {E : Ev} {z : Sh} {n : Nat} {k4 : Hp → Nat → Nat → Int32 → Int32 → Option (Int32 × Hp)} {r : Int32} {h' : Hp} (G : Gl s0 E) (B : Bd p s0 s E m c cX7_tell 5 RX7) (hz : s0.heap.size ≤ z.sz) (hc0 : s.heap.size + 0 = z.sz) (hr : meth.sig.returnType = (some .int)) (hlk : meth.locks = false) (hk4 : ∀ (h : Hp) (v0 : Nat) (v1 : Nat) (v2 : Int32) (v3 : Int32) (H : Heap) (locs : List Loc) (ls : Array Slot), Pw s0 s E z h H locs → lv_has ls 5 [(0, .ref v0), (1, .ref v1), (2, .int v2), (3, .int v3)] → k4 h v0 v1 v2 v3 = some (r, h') → W p l e (rmO 1 24) s m args below meth c H locs 0 0 (Zt below s0 E z h' (some (.int r)) args s 0 0) (F0 m 4 ls [])) : ∀ (h : Hp) (v0 : Nat) (v1 : Nat) (v2 : Int32) (v3 : Int32) (H : Heap) (locs : List Loc) (ls : Array Slot), Pw s0 s E z h H locs → lv_has ls 5 [(0, .ref v0), (1, .ref v1), (2, .int v2), (3, .int v3)] → f_X7_tell_189 n z k4 h v0 v1 v2 v3 = some (r, h') → W p l e (rmO 1 24) s m args below meth c H locs 0 0 (Zt below s0 E z h' (some (.int r)) args s 0 0) (F0 m 189 ls []) := by
  have hx := B.1
  have hb := B.2.1
  intro h v0 v1 v2 v3 H locs ls hw hl hf
  unfold f_X7_tell_189 at hf
  obtain ⟨x1, e, hf⟩ := ob hf
  refine lv_iinc (v := x1) (lv' := [(3, .int x1), (0, .ref v0), (1, .ref v1), (2, .int v2)]) hx hb dX7_tell_189 hl (k := 3) rfl (Option.some.inj e) (by decide) rfl (fun ls hl => ?_)
  refine lv_goto (tgt := 4) hx hb dX7_tell_192 (by decide) ?_
  exact hk4 h v0 v1 v2 x1 _ _ _ hw (lv_sub hl [1, 2, 3, 0] rfl) hf
set_option maxHeartbeats 4000000 in
theorem w_X7_tell_150 {p : Program} {l : Launch} {e : Env} {s : State} {m : MethodId} {args : Array Value} {below : List Frame} {meth : Method} {c : Code} {s0 : State} {E : Ev} {z : Sh} {n : Nat} {k4 : Hp → Nat → Nat → Int32 → Int32 → Option (Int32 × Hp)} {r : Int32} {h' : Hp} (G : Gl s0 E) (B : Bd p s0 s E m c cX7_tell 5 RX7) (hz : s0.heap.size ≤ z.sz) (hc0 : s.heap.size + 0 = z.sz) (hr : meth.sig.returnType = (some .int)) (hlk : meth.locks = false) (hk4 : ∀ (h : Hp) (v0 : Nat) (v1 : Nat) (v2 : Int32) (v3 : Int32) (H : Heap) (locs : List Loc) (ls : Array Slot), Pw s0 s E z h H locs → lv_has ls 5 [(0, .ref v0), (1, .ref v1), (2, .int v2), (3, .int v3)] → k4 h v0 v1 v2 v3 = some (r, h') → W p l e (rmO 1 24) s m args below meth c H locs 0 0 (Zt below s0 E z h' (some (.int r)) args s 0 0) (F0 m 4 ls [])) : ∀ (h : Hp) (v0 : Nat) (v1 : Nat) (v2 : Int32) (v3 : Int32) (u0 : Int32) (u1 : Int32) (u2 : Nat) (H : Heap) (locs : List Loc) (ls : Array Slot), Pw s0 s E z h H locs → lv_has ls 5 [(0, .ref v0), (1, .ref v1), (2, .int v2), (3, .int v3)] → f_X7_tell_150 n z k4 h v0 v1 v2 v3 u0 u1 u2 = some (r, h') → W p l e (rmO 1 24) s m args below meth c H locs 0 0 (Zt below s0 E z h' (some (.int r)) args s 0 0) (F0 m 150 ls [.int u0, .int u1, .ref u2]) := by
  have hx := B.1
  have hb := B.2.1
  intro h v0 v1 v2 v3 u0 u1 u2 H locs ls hw hl hf
  unfold f_X7_tell_150 at hf
  obtain ⟨h1, e, hf⟩ := ob hf
  refine q_stI e B hw dX7_tell_150 (fun H locs hw => ?_)
  refine lv_goto (tgt := 189) hx hb dX7_tell_151 (by decide) ?_
  exact w_X7_tell_189 G B hz hc0 hr hlk hk4 h1 v0 v1 v2 v3 _ _ _ hw (lv_sub hl [0, 1, 2, 3] rfl) hf
set_option maxHeartbeats 4000000 in
theorem w_X7_tell_60 {p : Program} {l : Launch} {e : Env} {s : State} {m : MethodId} {args : Array Value} {below : List Frame} {meth : Method} {c : Code} {s0 : State} {E : Ev} {z : Sh} {n : Nat} {k4 : Hp → Nat → Nat → Int32 → Int32 → Option (Int32 × Hp)} {r : Int32} {h' : Hp} (G : Gl s0 E) (B : Bd p s0 s E m c cX7_tell 5 RX7) (hz : s0.heap.size ≤ z.sz) (hc0 : s.heap.size + 0 = z.sz) (hr : meth.sig.returnType = (some .int)) (hlk : meth.locks = false) (hk4 : ∀ (h : Hp) (v0 : Nat) (v1 : Nat) (v2 : Int32) (v3 : Int32) (H : Heap) (locs : List Loc) (ls : Array Slot), Pw s0 s E z h H locs → lv_has ls 5 [(0, .ref v0), (1, .ref v1), (2, .int v2), (3, .int v3)] → k4 h v0 v1 v2 v3 = some (r, h') → W p l e (rmO 1 24) s m args below meth c H locs 0 0 (Zt below s0 E z h' (some (.int r)) args s 0 0) (F0 m 4 ls [])) : ∀ (h : Hp) (v0 : Nat) (v1 : Nat) (v2 : Int32) (v3 : Int32) (u0 : Int32) (u1 : Int32) (u2 : Nat) (H : Heap) (locs : List Loc) (ls : Array Slot), Pw s0 s E z h H locs → lv_has ls 5 [(0, .ref v0), (1, .ref v1), (2, .int v2), (3, .int v3)] → f_X7_tell_60 n z k4 h v0 v1 v2 v3 u0 u1 u2 = some (r, h') → W p l e (rmO 1 24) s m args below meth c H locs 0 0 (Zt below s0 E z h' (some (.int r)) args s 0 0) (F0 m 60 ls [.int u0, .int u1, .ref u2]) := by
  have hx := B.1
  have hb := B.2.1
  intro h v0 v1 v2 v3 u0 u1 u2 H locs ls hw hl hf
  unfold f_X7_tell_60 at hf
  obtain ⟨h1, e, hf⟩ := ob hf
  refine q_stI e B hw dX7_tell_60 (fun H locs hw => ?_)
  obtain ⟨x2, e, hf⟩ := ob hf
  refine lv_iinc (v := x2) (lv' := [(2, .int x2), (0, .ref v0), (1, .ref v1), (3, .int v3)]) hx hb dX7_tell_61 hl (k := 2) rfl (Option.some.inj e) (by decide) rfl (fun ls hl => ?_)
  refine lv_goto (tgt := 189) hx hb dX7_tell_64 (by decide) ?_
  exact w_X7_tell_189 G B hz hc0 hr hlk hk4 h1 v0 v1 x2 v3 _ _ _ hw (lv_sub hl [1, 2, 0, 3] rfl) hf
set_option maxHeartbeats 4000000 in
theorem w_X7_tell_27 {p : Program} {l : Launch} {e : Env} {s : State} {m : MethodId} {args : Array Value} {below : List Frame} {meth : Method} {c : Code} {s0 : State} {E : Ev} {z : Sh} {n : Nat} {k4 : Hp → Nat → Nat → Int32 → Int32 → Option (Int32 × Hp)} {r : Int32} {h' : Hp} (G : Gl s0 E) (B : Bd p s0 s E m c cX7_tell 5 RX7) (hz : s0.heap.size ≤ z.sz) (hc0 : s.heap.size + 0 = z.sz) (hr : meth.sig.returnType = (some .int)) (hlk : meth.locks = false) (hk4 : ∀ (h : Hp) (v0 : Nat) (v1 : Nat) (v2 : Int32) (v3 : Int32) (H : Heap) (locs : List Loc) (ls : Array Slot), Pw s0 s E z h H locs → lv_has ls 5 [(0, .ref v0), (1, .ref v1), (2, .int v2), (3, .int v3)] → k4 h v0 v1 v2 v3 = some (r, h') → W p l e (rmO 1 24) s m args below meth c H locs 0 0 (Zt below s0 E z h' (some (.int r)) args s 0 0) (F0 m 4 ls [])) : ∀ (h : Hp) (v0 : Nat) (v1 : Nat) (v2 : Int32) (v3 : Int32) (v4 : Int32) (H : Heap) (locs : List Loc) (ls : Array Slot), Pw s0 s E z h H locs → lv_has ls 5 [(0, .ref v0), (1, .ref v1), (2, .int v2), (3, .int v3), (4, .int v4)] → f_X7_tell_27 n z k4 h v0 v1 v2 v3 v4 = some (r, h') → W p l e (rmO 1 24) s m args below meth c H locs 0 0 (Zt below s0 E z h' (some (.int r)) args s 0 0) (F0 m 27 ls []) := by
  have hx := B.1
  have hb := B.2.1
  intro h v0 v1 v2 v3 v4 H locs ls hw hl hf
  unfold f_X7_tell_27 at hf
  refine lv_iload_n hx hb dX7_tell_27 rfl (lv_at hl 2 rfl) ?_
  refine lv_aload_n hx hb dX7_tell_28 rfl (lv_at hl 0 rfl) ?_
  obtain ⟨a1, e, hf⟩ := ob hf
  refine q_getR e B hw fd_7_1.1 fd_7_1.2.1 fd_7_1.2.2.1 fd_7_1.2.2.2.1 fd_7_1.2.2.2.2 rfl tw_1_194 dX7_tell_29 ?_
  obtain ⟨x2, e, hf⟩ := ob hf
  refine q_len e B hw dX7_tell_32 ?_
  refine lv_icmp_ge (tgt := 189) hx hb dX7_tell_33 (by decide) (fun c3 => ?_) (fun c3 => ?_)
  · have hf := (if_pos c3).symm.trans hf
    exact w_X7_tell_189 G B hz hc0 hr hlk hk4 h v0 v1 v2 v3 _ _ _ hw (lv_sub hl [0, 1, 2, 3] rfl) hf
  · have hf := (if_neg c3).symm.trans hf
    refine lv_aload_n hx hb dX7_tell_36 rfl (lv_at hl 0 rfl) ?_
    obtain ⟨a4, e, hf⟩ := ob hf
    refine q_getR e B hw fd_7_1.1 fd_7_1.2.1 fd_7_1.2.2.1 fd_7_1.2.2.2.1 fd_7_1.2.2.2.2 rfl tw_1_194 dX7_tell_37 ?_
    refine lv_iload_n hx hb dX7_tell_40 rfl (lv_at hl 2 rfl) ?_
    refine lv_iload hx hb dX7_tell_41 (lv_at hl 4 rfl) ?_
    refine lv_if_lt (tgt := 51) hx hb dX7_tell_43 (by decide) (fun c5 => ?_) (fun c5 => ?_)
    · have hf := (if_pos c5).symm.trans hf
      refine lv_aload_n hx hb dX7_tell_51 rfl (lv_at hl 0 rfl) ?_
      refine lv_bipush (v := (-11)) hx hb dX7_tell_52 (by decide) ?_
      refine lv_iload hx hb dX7_tell_54 (lv_at hl 4 rfl) ?_
      refine lv_isub hx hb dX7_tell_56 ?_
      obtain ⟨x6, e, hf⟩ := ob hf
      refine q_callV (As := [.int ((-11) - v4)]) (rest := [.int v2, .ref a4]) (st1 := [.int x6, .int v2, .ref a4]) (c_X7_factAt G e) B hw hz hc0 (k_X7_factAt e) (by decide) (ci := 7) rfl rfl my_X7_factAt mv_X7_factAt tw_3_239 ⟨Nat.le_of_ble_eq_true rfl, Nat.le_of_ble_eq_true rfl⟩ ⟨Nat.zero_le _, Nat.zero_le _⟩ rfl hl.1 rfl rfl (Nat.le_of_ble_eq_true rfl) dX7_tell_57 (fun H locs hw => ?_)
      exact w_X7_tell_60 G B hz hc0 hr hlk hk4 h v0 v1 v2 v3 x6 v2 a4 _ _ _ hw (lv_sub hl [0, 1, 2, 3] rfl) hf
    · have hf := (if_neg c5).symm.trans hf
      refine lv_iload hx hb dX7_tell_46 (lv_at hl 4 rfl) ?_
      refine lv_goto (tgt := 60) hx hb dX7_tell_48 (by decide) ?_
      exact w_X7_tell_60 G B hz hc0 hr hlk hk4 h v0 v1 v2 v3 v4 v2 a4 _ _ _ hw (lv_sub hl [0, 1, 2, 3] rfl) hf
set_option maxHeartbeats 4000000 in
theorem w_X7_tell_4 {p : Program} {l : Launch} {e : Env} {s : State} {m : MethodId} {args : Array Value} {below : List Frame} {meth : Method} {c : Code} {s0 : State} {E : Ev} {z : Sh} {n : Nat} {r : Int32} {h' : Hp} (G : Gl s0 E) (B : Bd p s0 s E m c cX7_tell 5 RX7) (hz : s0.heap.size ≤ z.sz) (hc0 : s.heap.size + 0 = z.sz) (hr : meth.sig.returnType = (some .int)) (hlk : meth.locks = false) : ∀ (i : Nat), ∀ (h : Hp) (v0 : Nat) (v1 : Nat) (v2 : Int32) (v3 : Int32) (H : Heap) (locs : List Loc) (ls : Array Slot), Pw s0 s E z h H locs → lv_has ls 5 [(0, .ref v0), (1, .ref v1), (2, .int v2), (3, .int v3)] → f_X7_tell_4 n z i h v0 v1 v2 v3 = some (r, h') → W p l e (rmO 1 24) s m args below meth c H locs 0 0 (Zt below s0 E z h' (some (.int r)) args s 0 0) (F0 m 4 ls []) := by
  have hx := B.1
  have hb := B.2.1
  intro i
  induction i with
  | zero =>
    intro h v0 v1 v2 v3 H locs ls hw hl hf
    have hf := (f_X7_tell_4.eq_1 ..).symm.trans hf
    cases hf
  | succ i ih =>
    intro h v0 v1 v2 v3 H locs ls hw hl hf
    have hf := (f_X7_tell_4.eq_2 ..).symm.trans hf
    refine lv_iload_n hx hb dX7_tell_4 rfl (lv_at hl 3 rfl) ?_
    refine lv_aload_n hx hb dX7_tell_5 rfl (lv_at hl 1 rfl) ?_
    obtain ⟨x1, e, hf⟩ := ob hf
    refine q_len e B hw dX7_tell_6 ?_
    refine lv_icmp_ge (tgt := 195) hx hb dX7_tell_7 (by decide) (fun c2 => ?_) (fun c2 => ?_)
    · have hf := (if_pos c2).symm.trans hf
      refine lv_aload_n hx hb dX7_tell_195 rfl (lv_at hl 0 rfl) ?_
      obtain ⟨a3, e, hf⟩ := ob hf
      refine q_getR e B hw fd_7_1.1 fd_7_1.2.1 fd_7_1.2.2.1 fd_7_1.2.2.2.1 fd_7_1.2.2.2.2 rfl tw_1_194 dX7_tell_196 ?_
      refine lv_iconst (v := 0) hx hb dX7_tell_199 (by decide) ?_
      obtain ⟨x4, e, hf⟩ := ob hf
      refine q_ldI e B hw dX7_tell_200 ?_
      obtain ⟨rfl, rfl⟩ := so2 hf
      exact q_iret B hw hz hc0 hr hlk dX7_tell_201
    · have hf := (if_neg c2).symm.trans hf
      refine lv_aload_n hx hb dX7_tell_10 rfl (lv_at hl 1 rfl) ?_
      refine lv_iload_n hx hb dX7_tell_11 rfl (lv_at hl 3 rfl) ?_
      obtain ⟨x5, e, hf⟩ := ob hf
      refine q_ldI e B hw dX7_tell_12 ?_
      refine lv_istore (lv' := [(4, .int x5), (0, .ref v0), (1, .ref v1), (2, .int v2), (3, .int v3)]) hx hb dX7_tell_13 hl (by decide) rfl (fun ls hl => ?_)
      refine lv_iload hx hb dX7_tell_15 (lv_at hl 0 rfl) ?_
      refine lv_if_ge (tgt := 27) hx hb dX7_tell_17 (by decide) (fun c6 => ?_) (fun c6 => ?_)
      · have hf := (if_pos c6).symm.trans hf
        exact w_X7_tell_27 G B hz hc0 hr hlk ih h v0 v1 v2 v3 x5 _ _ _ hw (lv_sub hl [1, 2, 3, 4, 0] rfl) hf
      · have hf := (if_neg c6).symm.trans hf
        refine lv_iload hx hb dX7_tell_20 (lv_at hl 0 rfl) ?_
        refine lv_bipush (v := (-11)) hx hb dX7_tell_22 (by decide) ?_
        refine lv_icmp_gt (tgt := 67) hx hb dX7_tell_24 (by decide) (fun c7 => ?_) (fun c7 => ?_)
        · have hf := (if_pos c7).symm.trans hf
          refine lv_iload hx hb dX7_tell_67 (lv_at hl 0 rfl) ?_
          refine lv_bipush (v := (-9)) hx hb dX7_tell_69 (by decide) ?_
          refine lv_icmp_ne (tgt := 100) hx hb dX7_tell_71 (by decide) (fun c8 => ?_) (fun c8 => ?_)
          · have hf := (if_neg c8).symm.trans hf
            refine lv_iload hx hb dX7_tell_100 (lv_at hl 0 rfl) ?_
            refine lv_bipush (v := (-10)) hx hb dX7_tell_102 (by decide) ?_
            refine lv_icmp_ne (tgt := 154) hx hb dX7_tell_104 (by decide) (fun c9 => ?_) (fun c9 => ?_)
            · have hf := (if_neg c9).symm.trans hf
              refine lv_iload_n hx hb dX7_tell_154 rfl (lv_at hl 3 rfl) ?_
              refine lv_iconst (v := 2) hx hb dX7_tell_155 (by decide) ?_
              refine lv_icmp_lt (tgt := 189) hx hb dX7_tell_156 (by decide) (fun c10 => ?_) (fun c10 => ?_)
              · have hf := (if_pos c10).symm.trans hf
                exact w_X7_tell_189 G B hz hc0 hr hlk ih h v0 v1 v2 v3 _ _ _ hw (lv_sub hl [1, 2, 3, 4] rfl) hf
              · have hf := (if_neg c10).symm.trans hf
                obtain ⟨x11, e, hf⟩ := ob hf
                refine lv_iinc (v := x11) (lv' := [(2, .int x11), (4, .int x5), (0, .ref v0), (1, .ref v1), (3, .int v3)]) hx hb dX7_tell_159 hl (k := 3) rfl (Option.some.inj e) (by decide) rfl (fun ls hl => ?_)
                refine lv_aload_n hx hb dX7_tell_162 rfl (lv_at hl 2 rfl) ?_
                obtain ⟨a12, e, hf⟩ := ob hf
                refine q_getR e B hw fd_7_1.1 fd_7_1.2.1 fd_7_1.2.2.1 fd_7_1.2.2.2.1 fd_7_1.2.2.2.2 rfl tw_1_194 dX7_tell_163 ?_
                refine lv_iload_n hx hb dX7_tell_166 rfl (lv_at hl 0 rfl) ?_
                refine lv_iconst (v := 1) hx hb dX7_tell_167 (by decide) ?_
                refine lv_isub hx hb dX7_tell_168 ?_
                refine lv_iload hx hb dX7_tell_169 (lv_at hl 1 rfl) ?_
                refine lv_aload_n hx hb dX7_tell_171 rfl (lv_at hl 2 rfl) ?_
                obtain ⟨a13, e, hf⟩ := ob hf
                refine q_getR e B hw fd_7_1.1 fd_7_1.2.1 fd_7_1.2.2.1 fd_7_1.2.2.2.1 fd_7_1.2.2.2.2 rfl tw_1_194 dX7_tell_172 ?_
                refine lv_iload_n hx hb dX7_tell_175 rfl (lv_at hl 0 rfl) ?_
                refine lv_iconst (v := 1) hx hb dX7_tell_176 (by decide) ?_
                refine lv_isub hx hb dX7_tell_177 ?_
                obtain ⟨x14, e, hf⟩ := ob hf
                refine q_ldI e B hw dX7_tell_178 ?_
                refine lv_aload_n hx hb dX7_tell_179 rfl (lv_at hl 2 rfl) ?_
                obtain ⟨a15, e, hf⟩ := ob hf
                refine q_getR e B hw fd_7_1.1 fd_7_1.2.1 fd_7_1.2.2.1 fd_7_1.2.2.2.1 fd_7_1.2.2.2.2 rfl tw_1_194 dX7_tell_180 ?_
                refine lv_iload_n hx hb dX7_tell_183 rfl (lv_at hl 0 rfl) ?_
                obtain ⟨x16, e, hf⟩ := ob hf
                refine q_ldI e B hw dX7_tell_184 ?_
                obtain ⟨x17, e, hf⟩ := ob hf
                refine q_callS (As := [.int x5, .int x14, .int x16]) (rest := [.int (x11 - 1), .ref a12]) (st1 := [.int x17, .int (x11 - 1), .ref a12]) (c_X7_joined G e) B hw hz hc0 my_X7_joined mv_X7_joined tw_4_3 ⟨Nat.le_of_ble_eq_true rfl, Nat.le_of_ble_eq_true rfl⟩ ⟨Nat.zero_le _, Nat.zero_le _⟩ rfl hl.1 rfl rfl (Nat.le_of_ble_eq_true rfl) dX7_tell_185 (fun H locs hw => ?_)
                obtain ⟨h18, e, hf⟩ := ob hf
                refine q_stI e B hw dX7_tell_188 (fun H locs hw => ?_)
                exact w_X7_tell_189 G B hz hc0 hr hlk ih h18 v0 v1 x11 v3 _ _ _ hw (lv_sub hl [2, 3, 0, 4] rfl) hf
            · have hf := (if_pos c9).symm.trans hf
              refine lv_iload_n hx hb dX7_tell_107 rfl (lv_at hl 3 rfl) ?_
              refine lv_iconst (v := 3) hx hb dX7_tell_108 (by decide) ?_
              refine lv_icmp_lt (tgt := 189) hx hb dX7_tell_109 (by decide) (fun c19 => ?_) (fun c19 => ?_)
              · have hf := (if_pos c19).symm.trans hf
                exact w_X7_tell_189 G B hz hc0 hr hlk ih h v0 v1 v2 v3 _ _ _ hw (lv_sub hl [1, 2, 3, 4] rfl) hf
              · have hf := (if_neg c19).symm.trans hf
                obtain ⟨x20, e, hf⟩ := ob hf
                refine lv_iinc (v := x20) (lv' := [(2, .int x20), (4, .int x5), (0, .ref v0), (1, .ref v1), (3, .int v3)]) hx hb dX7_tell_112 hl (k := 3) rfl (Option.some.inj e) (by decide) rfl (fun ls hl => ?_)
                refine lv_aload_n hx hb dX7_tell_115 rfl (lv_at hl 2 rfl) ?_
                obtain ⟨a21, e, hf⟩ := ob hf
                refine q_getR e B hw fd_7_1.1 fd_7_1.2.1 fd_7_1.2.2.1 fd_7_1.2.2.2.1 fd_7_1.2.2.2.2 rfl tw_1_194 dX7_tell_116 ?_
                refine lv_iload_n hx hb dX7_tell_119 rfl (lv_at hl 0 rfl) ?_
                refine lv_iconst (v := 1) hx hb dX7_tell_120 (by decide) ?_
                refine lv_isub hx hb dX7_tell_121 ?_
                refine lv_aload_n hx hb dX7_tell_122 rfl (lv_at hl 2 rfl) ?_
                obtain ⟨a22, e, hf⟩ := ob hf
                refine q_getR e B hw fd_7_1.1 fd_7_1.2.1 fd_7_1.2.2.1 fd_7_1.2.2.2.1 fd_7_1.2.2.2.2 rfl tw_1_194 dX7_tell_123 ?_
                refine lv_iload_n hx hb dX7_tell_126 rfl (lv_at hl 0 rfl) ?_
                refine lv_iconst (v := 1) hx hb dX7_tell_127 (by decide) ?_
                refine lv_isub hx hb dX7_tell_128 ?_
                obtain ⟨x23, e, hf⟩ := ob hf
                refine q_ldI e B hw dX7_tell_129 ?_
                refine lv_if_eq (tgt := 142) hx hb dX7_tell_130 (by decide) (fun c24 => ?_) (fun c24 => ?_)
                · have hf := (if_pos c24).symm.trans hf
                  refine lv_aload_n hx hb dX7_tell_142 rfl (lv_at hl 2 rfl) ?_
                  obtain ⟨a25, e, hf⟩ := ob hf
                  refine q_getR e B hw fd_7_1.1 fd_7_1.2.1 fd_7_1.2.2.1 fd_7_1.2.2.2.1 fd_7_1.2.2.2.2 rfl tw_1_194 dX7_tell_143 ?_
                  refine lv_iload_n hx hb dX7_tell_146 rfl (lv_at hl 0 rfl) ?_
                  refine lv_iconst (v := 1) hx hb dX7_tell_147 (by decide) ?_
                  refine lv_iadd hx hb dX7_tell_148 ?_
                  obtain ⟨x26, e, hf⟩ := ob hf
                  refine q_ldI e B hw dX7_tell_149 ?_
                  exact w_X7_tell_150 G B hz hc0 hr hlk ih h v0 v1 x20 v3 x26 (x20 - 1) a21 _ _ _ hw (lv_sub hl [2, 3, 0, 4] rfl) hf
                · have hf := (if_neg c24).symm.trans hf
                  refine lv_aload_n hx hb dX7_tell_133 rfl (lv_at hl 2 rfl) ?_
                  obtain ⟨a27, e, hf⟩ := ob hf
                  refine q_getR e B hw fd_7_1.1 fd_7_1.2.1 fd_7_1.2.2.1 fd_7_1.2.2.2.1 fd_7_1.2.2.2.2 rfl tw_1_194 dX7_tell_134 ?_
                  refine lv_iload_n hx hb dX7_tell_137 rfl (lv_at hl 0 rfl) ?_
                  obtain ⟨x28, e, hf⟩ := ob hf
                  refine q_ldI e B hw dX7_tell_138 ?_
                  refine lv_goto (tgt := 150) hx hb dX7_tell_139 (by decide) ?_
                  exact w_X7_tell_150 G B hz hc0 hr hlk ih h v0 v1 x20 v3 x28 (x20 - 1) a21 _ _ _ hw (lv_sub hl [2, 3, 0, 4] rfl) hf
          · have hf := (if_pos c8).symm.trans hf
            refine lv_iload_n hx hb dX7_tell_74 rfl (lv_at hl 3 rfl) ?_
            refine lv_iconst (v := 1) hx hb dX7_tell_75 (by decide) ?_
            refine lv_icmp_lt (tgt := 189) hx hb dX7_tell_76 (by decide) (fun c29 => ?_) (fun c29 => ?_)
            · have hf := (if_pos c29).symm.trans hf
              exact w_X7_tell_189 G B hz hc0 hr hlk ih h v0 v1 v2 v3 _ _ _ hw (lv_sub hl [1, 2, 3, 4] rfl) hf
            · have hf := (if_neg c29).symm.trans hf
              refine lv_aload_n hx hb dX7_tell_79 rfl (lv_at hl 1 rfl) ?_
              obtain ⟨a30, e, hf⟩ := ob hf
              refine q_getR e B hw fd_7_1.1 fd_7_1.2.1 fd_7_1.2.2.1 fd_7_1.2.2.2.1 fd_7_1.2.2.2.2 rfl tw_1_194 dX7_tell_80 ?_
              refine lv_iload_n hx hb dX7_tell_83 rfl (lv_at hl 3 rfl) ?_
              refine lv_iconst (v := 1) hx hb dX7_tell_84 (by decide) ?_
              refine lv_isub hx hb dX7_tell_85 ?_
              refine lv_iconst (v := 1) hx hb dX7_tell_86 (by decide) ?_
              refine lv_aload_n hx hb dX7_tell_87 rfl (lv_at hl 1 rfl) ?_
              obtain ⟨a31, e, hf⟩ := ob hf
              refine q_getR e B hw fd_7_1.1 fd_7_1.2.1 fd_7_1.2.2.1 fd_7_1.2.2.2.1 fd_7_1.2.2.2.2 rfl tw_1_194 dX7_tell_88 ?_
              refine lv_iload_n hx hb dX7_tell_91 rfl (lv_at hl 3 rfl) ?_
              refine lv_iconst (v := 1) hx hb dX7_tell_92 (by decide) ?_
              refine lv_isub hx hb dX7_tell_93 ?_
              obtain ⟨x32, e, hf⟩ := ob hf
              refine q_ldI e B hw dX7_tell_94 ?_
              refine lv_isub hx hb dX7_tell_95 ?_
              obtain ⟨h33, e, hf⟩ := ob hf
              refine q_stI e B hw dX7_tell_96 (fun H locs hw => ?_)
              refine lv_goto (tgt := 189) hx hb dX7_tell_97 (by decide) ?_
              exact w_X7_tell_189 G B hz hc0 hr hlk ih h33 v0 v1 v2 v3 _ _ _ hw (lv_sub hl [1, 2, 3, 4] rfl) hf
        · have hf := (if_neg c7).symm.trans hf
          exact w_X7_tell_27 G B hz hc0 hr hlk ih h v0 v1 v2 v3 x5 _ _ _ hw (lv_sub hl [1, 2, 3, 4, 0] rfl) hf
set_option maxHeartbeats 4000000 in
theorem c_X7_tell {l : Launch} {s0 : State} {E : Ev} (G : Gl s0 E) {n : Nat} {z : Sh} {h : Hp} {v0 : Nat} {v1 : Nat} {r : Int32} {h' : Hp} (hf : f_X7_tell n z h v0 v1 = some (r, h')) : Ct l s0 E yX7_tell cX7_tell 5 (some .int) 1 24 [.ref v0, .ref v1] z h h' (some (.int r)) := by
  refine Ct.of G (by decide) (Nat.le_of_ble_eq_true rfl) ?_
  intro p e s m below meth c ls B hw hz hc0 hr hlk hl
  have B : Bd p s0 s E m c cX7_tell 5 RX7 := B
  have hx := B.1
  have hb := B.2.1
  have hl : lv_has ls 5 [(0, .ref v0), (1, .ref v1)] := hl
  unfold f_X7_tell at hf
  obtain ⟨_, hf⟩ := if_some hf
  refine lv_iconst (v := 0) hx hb dX7_tell_0 (by decide) ?_
  refine lv_istore_n (lv' := [(2, .int 0), (0, .ref v0), (1, .ref v1)]) hx hb dX7_tell_1 rfl hl (by decide) rfl (fun ls hl => ?_)
  refine lv_iconst (v := 0) hx hb dX7_tell_2 (by decide) ?_
  refine lv_istore_n (lv' := [(3, .int 0), (2, .int 0), (0, .ref v0), (1, .ref v1)]) hx hb dX7_tell_3 rfl hl (by decide) rfl (fun ls hl => ?_)
  exact w_X7_tell_4 G B hz hc0 hr hlk  n h v0 v1 0 0 _ _ _ hw (lv_sub hl [2, 3, 1, 0] rfl) hf
/-! SecondLife$Tray.make(II)V -/
def f_X9_make (n : Nat) (z : Sh) (h : Hp) (v0 : Nat) (v1 : Int32) (v2 : Int32) : Option (Hp) :=
  if z.K v0 = 9 then
    (gR z h 9 v0 0).bind fun a1 =>
    (f_J7_fill_d0a16 n z h a1 0).bind fun h2 =>
    (pZ z h2 9 v0 1 1).bind fun h3 =>
    (pI z h3 9 v0 2 v1).bind fun h4 =>
    (pI z h4 9 v0 3 v2).bind fun h5 =>
    some h5
  else none
theorem k_X9_make {n : Nat} {z : Sh} {h : Hp} {v0 : Nat} {v1 : Int32} {v2 : Int32} {w : Hp} (hf : f_X9_make n z h v0 v1 v2 = some w) : z.K v0 = 9 := by
  unfold f_X9_make at hf
  exact (if_some hf).1
set_option maxHeartbeats 4000000 in
theorem c_X9_make {l : Launch} {s0 : State} {E : Ev} (G : Gl s0 E) {n : Nat} {z : Sh} {h : Hp} {v0 : Nat} {v1 : Int32} {v2 : Int32} {h' : Hp} (hf : f_X9_make n z h v0 v1 v2 = some h') : Ct l s0 E yX9_make cX9_make 3 none 1 24 [.ref v0, .int v1, .int v2] z h h' (none) := by
  refine Ct.of G (by decide) (Nat.le_of_ble_eq_true rfl) ?_
  intro p e s m below meth c ls B hw hz hc0 hr hlk hl
  have B : Bd p s0 s E m c cX9_make 3 RX9 := B
  have hx := B.1
  have hb := B.2.1
  have hl : lv_has ls 3 [(0, .ref v0), (1, .int v1), (2, .int v2)] := hl
  unfold f_X9_make at hf
  obtain ⟨_, hf⟩ := if_some hf
  refine lv_aload_n hx hb dX9_make_0 rfl (lv_at hl 0 rfl) ?_
  obtain ⟨a1, e, hf⟩ := ob hf
  refine q_getR e B hw fd_9_0.1 fd_9_0.2.1 fd_9_0.2.2.1 fd_9_0.2.2.2.1 fd_9_0.2.2.2.2 rfl tw_2_85 dX9_make_1 ?_
  refine lv_lconst (v := 0) hx hb dX9_make_4 (by decide) ?_
  obtain ⟨h2, e, hf⟩ := ob hf
  refine q_callS (As := [.ref a1, .long 0]) (rest := []) (st1 := []) (c_J7_fill_d0a16 G e) B hw hz hc0 my_J7_fill_d0a16 mv_J7_fill_d0a16 tw_5_233 ⟨Nat.le_of_ble_eq_true rfl, Nat.le_of_ble_eq_true rfl⟩ ⟨Nat.zero_le _, Nat.zero_le _⟩ rfl hl.1 rfl rfl (Nat.le_of_ble_eq_true rfl) dX9_make_5 (fun H locs hw => ?_)
  refine lv_aload_n hx hb dX9_make_8 rfl (lv_at hl 0 rfl) ?_
  refine lv_iconst (v := 1) hx hb dX9_make_9 (by decide) ?_
  obtain ⟨h3, e, hf⟩ := ob hf
  refine q_putZ e B hw fd_9_1.1 fd_9_1.2.1 fd_9_1.2.2.1 fd_9_1.2.2.2.1 fd_9_1.2.2.2.2 rfl rfl (tyX9_ok 1 (by decide)) tyX9 tyX9_ok nmX9 tw_2_86 dX9_make_10 (fun H locs hw => ?_)
  refine lv_aload_n hx hb dX9_make_13 rfl (lv_at hl 0 rfl) ?_
  refine lv_iload_n hx hb dX9_make_14 rfl (lv_at hl 1 rfl) ?_
  obtain ⟨h4, e, hf⟩ := ob hf
  refine q_putI e B hw fd_9_2.1 fd_9_2.2.1 fd_9_2.2.2.1 fd_9_2.2.2.2.1 fd_9_2.2.2.2.2 rfl rfl (tyX9_ok 2 (by decide)) tyX9 tyX9_ok nmX9 tw_2_88 dX9_make_15 (fun H locs hw => ?_)
  refine lv_aload_n hx hb dX9_make_18 rfl (lv_at hl 0 rfl) ?_
  refine lv_iload_n hx hb dX9_make_19 rfl (lv_at hl 2 rfl) ?_
  obtain ⟨h5, e, hf⟩ := ob hf
  refine q_putI e B hw fd_9_3.1 fd_9_3.2.1 fd_9_3.2.2.1 fd_9_3.2.2.2.1 fd_9_3.2.2.2.2 rfl rfl (tyX9_ok 3 (by decide)) tyX9 tyX9_ok nmX9 tw_2_89 dX9_make_20 (fun H locs hw => ?_)
  obtain rfl := so hf
  exact q_vret B hw hz hc0 hr hlk dX9_make_23
/-! SecondLife$Tray.put(IJ)V -/
def f_X9_put (z : Sh) (h : Hp) (v0 : Nat) (v1 : Int32) (v2 : Int64) : Option (Hp) :=
  if z.K v0 = 9 then
    if v1 < 0 then
      some h
    else
      (gI z h 9 v0 3).bind fun x2 =>
      if x2 ≤ v1 then
        some h
      else
        (gR z h 9 v0 0).bind fun a4 =>
        (aL z a4).bind fun x5 =>
        if x5 ≤ v1 then
          some h
        else
          (gR z h 9 v0 0).bind fun a7 =>
          (f_X9_cut z h v0 v2).bind fun x8 =>
          (stJ z h a7 v1 x8).bind fun h9 =>
          some h9
  else none
theorem k_X9_put {z : Sh} {h : Hp} {v0 : Nat} {v1 : Int32} {v2 : Int64} {w : Hp} (hf : f_X9_put z h v0 v1 v2 = some w) : z.K v0 = 9 := by
  unfold f_X9_put at hf
  exact (if_some hf).1
set_option maxHeartbeats 4000000 in
theorem c_X9_put {l : Launch} {s0 : State} {E : Ev} (G : Gl s0 E) {z : Sh} {h : Hp} {v0 : Nat} {v1 : Int32} {v2 : Int64} {h' : Hp} (hf : f_X9_put z h v0 v1 v2 = some h') : Ct l s0 E yX9_put cX9_put 4 none 1 22 [.ref v0, .int v1, .long v2] z h h' (none) := by
  refine Ct.of G (by decide) (Nat.le_of_ble_eq_true rfl) ?_
  intro p e s m below meth c ls B hw hz hc0 hr hlk hl
  have B : Bd p s0 s E m c cX9_put 4 RX9 := B
  have hx := B.1
  have hb := B.2.1
  have hl : lv_has ls 4 [(0, .ref v0), (1, .int v1), (2, .long v2)] := hl
  unfold f_X9_put at hf
  obtain ⟨_, hf⟩ := if_some hf
  refine lv_iload_n hx hb dX9_put_0 rfl (lv_at hl 1 rfl) ?_
  refine lv_if_lt (tgt := 32) hx hb dX9_put_1 (by decide) (fun c1 => ?_) (fun c1 => ?_)
  · have hf := (if_pos c1).symm.trans hf
    obtain rfl := so hf
    exact q_vret B hw hz hc0 hr hlk dX9_put_32
  · have hf := (if_neg c1).symm.trans hf
    refine lv_iload_n hx hb dX9_put_4 rfl (lv_at hl 1 rfl) ?_
    refine lv_aload_n hx hb dX9_put_5 rfl (lv_at hl 0 rfl) ?_
    obtain ⟨x2, e, hf⟩ := ob hf
    refine q_getI e B hw fd_9_3.1 fd_9_3.2.1 fd_9_3.2.2.1 fd_9_3.2.2.2.1 fd_9_3.2.2.2.2 rfl tw_2_89 dX9_put_6 ?_
    refine lv_icmp_ge (tgt := 32) hx hb dX9_put_9 (by decide) (fun c3 => ?_) (fun c3 => ?_)
    · have hf := (if_pos c3).symm.trans hf
      obtain rfl := so hf
      exact q_vret B hw hz hc0 hr hlk dX9_put_32
    · have hf := (if_neg c3).symm.trans hf
      refine lv_iload_n hx hb dX9_put_12 rfl (lv_at hl 1 rfl) ?_
      refine lv_aload_n hx hb dX9_put_13 rfl (lv_at hl 0 rfl) ?_
      obtain ⟨a4, e, hf⟩ := ob hf
      refine q_getR e B hw fd_9_0.1 fd_9_0.2.1 fd_9_0.2.2.1 fd_9_0.2.2.2.1 fd_9_0.2.2.2.2 rfl tw_2_85 dX9_put_14 ?_
      obtain ⟨x5, e, hf⟩ := ob hf
      refine q_len e B hw dX9_put_17 ?_
      refine lv_icmp_ge (tgt := 32) hx hb dX9_put_18 (by decide) (fun c6 => ?_) (fun c6 => ?_)
      · have hf := (if_pos c6).symm.trans hf
        obtain rfl := so hf
        exact q_vret B hw hz hc0 hr hlk dX9_put_32
      · have hf := (if_neg c6).symm.trans hf
        refine lv_aload_n hx hb dX9_put_21 rfl (lv_at hl 0 rfl) ?_
        obtain ⟨a7, e, hf⟩ := ob hf
        refine q_getR e B hw fd_9_0.1 fd_9_0.2.1 fd_9_0.2.2.1 fd_9_0.2.2.2.1 fd_9_0.2.2.2.2 rfl tw_2_85 dX9_put_22 ?_
        refine lv_iload_n hx hb dX9_put_25 rfl (lv_at hl 1 rfl) ?_
        refine lv_aload_n hx hb dX9_put_26 rfl (lv_at hl 0 rfl) ?_
        refine lv_lload_n hx hb dX9_put_27 rfl (lv_at hl 2 rfl) ?_
        obtain ⟨x8, e, hf⟩ := ob hf
        refine q_callV (As := [.long v2]) (rest := [.int v1, .ref a7]) (st1 := [.long x8, .int v1, .ref a7]) (c_X9_cut G e) B hw hz hc0 (k_X9_cut e) (by decide) (ci := 9) rfl rfl my_X9_cut mv_X9_cut tw_6_4 ⟨Nat.le_of_ble_eq_true rfl, Nat.le_of_ble_eq_true rfl⟩ ⟨Nat.zero_le _, Nat.zero_le _⟩ rfl hl.1 rfl rfl (Nat.le_of_ble_eq_true rfl) dX9_put_28 (fun H locs hw => ?_)
        obtain ⟨h9, e, hf⟩ := ob hf
        refine q_stJ e B hw dX9_put_31 (fun H locs hw => ?_)
        obtain rfl := so hf
        exact q_vret B hw hz hc0 hr hlk dX9_put_32
/-! SecondLife$Ways.afterYear(II)I -/
def f_X10_afterYear_18 (z : Sh) (h : Hp) (v1 : Int32) (v2 : Int32) (u0 : Int32) : Option (Int32) :=
  (f_J9_min_7cf53 z h u0 6).bind fun x1 =>
  (some ((v2 * 6) + x1)).bind fun x2 =>
  (dvI v1 25).bind fun x3 =>
  some (((x3 + 1) * 25) + x2)
def f_X10_afterYear (z : Sh) (h : Hp) (v0 : Nat) (v1 : Int32) (v2 : Int32) : Option (Int32) :=
  if z.K v0 = 10 then
    (f_X10_lastOf z h v1).bind fun x1 =>
    if x1 = v2 then
      (f_X10_streakOf z h v1).bind fun x3 =>
      f_X10_afterYear_18 z h v1 v2 (x3 + 1)
    else
      f_X10_afterYear_18 z h v1 v2 1
  else none
theorem k_X10_afterYear {z : Sh} {h : Hp} {v0 : Nat} {v1 : Int32} {v2 : Int32} {w : Int32} (hf : f_X10_afterYear z h v0 v1 v2 = some w) : z.K v0 = 10 := by
  unfold f_X10_afterYear at hf
  exact (if_some hf).1
set_option maxHeartbeats 4000000 in
theorem w_X10_afterYear_18 {p : Program} {l : Launch} {e : Env} {s : State} {m : MethodId} {args : Array Value} {below : List Frame} {meth : Method} {c : Code} {s0 : State} {E : Ev} {z : Sh} {h : Hp} {r : Int32} (G : Gl s0 E) (B : Bd p s0 s E m c cX10_afterYear 5 RX10) (hz : s0.heap.size ≤ z.sz) (hc0 : s.heap.size + 0 = z.sz) (hr : meth.sig.returnType = (some .int)) (hlk : meth.locks = false) : ∀ (v1 : Int32) (v2 : Int32) (u0 : Int32) (H : Heap) (locs : List Loc) (ls : Array Slot), Pw s0 s E z h H locs → lv_has ls 5 [(1, .int v1), (2, .int v2)] → f_X10_afterYear_18 z h v1 v2 u0 = some r → W p l e (rmO 1 21) s m args below meth c H locs 0 0 (Zt below s0 E z h (some (.int r)) args s 0 0) (F0 m 18 ls [.int u0]) := by
  have hx := B.1
  have hb := B.2.1
  intro v1 v2 u0 H locs ls hw hl hf
  unfold f_X10_afterYear_18 at hf
  refine lv_istore_n (lv' := [(3, .int u0), (1, .int v1), (2, .int v2)]) hx hb dX10_afterYear_18 rfl hl (by decide) rfl (fun ls hl => ?_)
  refine lv_iload_n hx hb dX10_afterYear_19 rfl (lv_at hl 2 rfl) ?_
  refine lv_bipush (v := 6) hx hb dX10_afterYear_20 (by decide) ?_
  refine lv_imul hx hb dX10_afterYear_22 ?_
  refine lv_iload_n hx hb dX10_afterYear_23 rfl (lv_at hl 0 rfl) ?_
  refine lv_bipush (v := 6) hx hb dX10_afterYear_24 (by decide) ?_
  obtain ⟨x1, e, hf⟩ := ob hf
  refine q_callS (As := [.int u0, .int 6]) (rest := [.int (v2 * 6)]) (st1 := [.int x1, .int (v2 * 6)]) (c_J9_min_7cf53 G e) B hw hz hc0 my_J9_min_7cf53 mv_J9_min_7cf53 tw_4_195 ⟨Nat.le_of_ble_eq_true rfl, Nat.le_of_ble_eq_true rfl⟩ ⟨Nat.zero_le _, Nat.zero_le _⟩ rfl hl.1 rfl rfl (Nat.le_of_ble_eq_true rfl) dX10_afterYear_26 (fun H locs hw => ?_)
  refine lv_iadd hx hb dX10_afterYear_29 ?_
  obtain ⟨x2, e, hf⟩ := ob hf
  refine q_nmI e ?_
  refine lv_istore (lv' := [(4, .int x2), (3, .int u0), (1, .int v1), (2, .int v2)]) hx hb dX10_afterYear_30 hl (by decide) rfl (fun ls hl => ?_)
  refine lv_iload_n hx hb dX10_afterYear_32 rfl (lv_at hl 2 rfl) ?_
  refine lv_bipush (v := 25) hx hb dX10_afterYear_33 (by decide) ?_
  obtain ⟨x3, e, hf⟩ := ob hf
  refine q_idiv e hx hb dX10_afterYear_35 ?_
  refine lv_iconst (v := 1) hx hb dX10_afterYear_36 (by decide) ?_
  refine lv_iadd hx hb dX10_afterYear_37 ?_
  refine lv_bipush (v := 25) hx hb dX10_afterYear_38 (by decide) ?_
  refine lv_imul hx hb dX10_afterYear_40 ?_
  refine lv_iload hx hb dX10_afterYear_41 (lv_at hl 0 rfl) ?_
  refine lv_iadd hx hb dX10_afterYear_43 ?_
  obtain rfl := so hf
  exact q_iret B hw hz hc0 hr hlk dX10_afterYear_44
set_option maxHeartbeats 4000000 in
theorem c_X10_afterYear {l : Launch} {s0 : State} {E : Ev} (G : Gl s0 E) {z : Sh} {h : Hp} {v0 : Nat} {v1 : Int32} {v2 : Int32} {r : Int32} (hf : f_X10_afterYear z h v0 v1 v2 = some r) : Ct l s0 E yX10_afterYear cX10_afterYear 5 (some .int) 1 21 [.ref v0, .int v1, .int v2] z h h (some (.int r)) := by
  refine Ct.of G (by decide) (Nat.le_of_ble_eq_true rfl) ?_
  intro p e s m below meth c ls B hw hz hc0 hr hlk hl
  have B : Bd p s0 s E m c cX10_afterYear 5 RX10 := B
  have hx := B.1
  have hb := B.2.1
  have hl : lv_has ls 5 [(0, .ref v0), (1, .int v1), (2, .int v2)] := hl
  unfold f_X10_afterYear at hf
  obtain ⟨_, hf⟩ := if_some hf
  refine lv_iload_n hx hb dX10_afterYear_0 rfl (lv_at hl 1 rfl) ?_
  obtain ⟨x1, e, hf⟩ := ob hf
  refine q_callS (As := [.int v1]) (rest := []) (st1 := [.int x1]) (c_X10_lastOf G e) B hw hz hc0 my_X10_lastOf mv_X10_lastOf tw_4_189 ⟨Nat.le_of_ble_eq_true rfl, Nat.le_of_ble_eq_true rfl⟩ ⟨Nat.zero_le _, Nat.zero_le _⟩ rfl hl.1 rfl rfl (Nat.le_of_ble_eq_true rfl) dX10_afterYear_1 (fun H locs hw => ?_)
  refine lv_iload_n hx hb dX10_afterYear_4 rfl (lv_at hl 2 rfl) ?_
  refine lv_icmp_ne (tgt := 17) hx hb dX10_afterYear_5 (by decide) (fun c2 => ?_) (fun c2 => ?_)
  · have hf := (if_neg c2).symm.trans hf
    refine lv_iconst (v := 1) hx hb dX10_afterYear_17 (by decide) ?_
    exact w_X10_afterYear_18 G B hz hc0 hr hlk  v1 v2 1 _ _ _ hw (lv_sub hl [1, 2] rfl) hf
  · have hf := (if_pos c2).symm.trans hf
    refine lv_iload_n hx hb dX10_afterYear_8 rfl (lv_at hl 1 rfl) ?_
    obtain ⟨x3, e, hf⟩ := ob hf
    refine q_callS (As := [.int v1]) (rest := []) (st1 := [.int x3]) (c_X10_streakOf G e) B hw hz hc0 my_X10_streakOf mv_X10_streakOf tw_4_192 ⟨Nat.le_of_ble_eq_true rfl, Nat.le_of_ble_eq_true rfl⟩ ⟨Nat.zero_le _, Nat.zero_le _⟩ rfl hl.1 rfl rfl (Nat.le_of_ble_eq_true rfl) dX10_afterYear_9 (fun H locs hw => ?_)
    refine lv_iconst (v := 1) hx hb dX10_afterYear_12 (by decide) ?_
    refine lv_iadd hx hb dX10_afterYear_13 ?_
    refine lv_goto (tgt := 18) hx hb dX10_afterYear_14 (by decide) ?_
    exact w_X10_afterYear_18 G B hz hc0 hr hlk  v1 v2 (x3 + 1) _ _ _ hw (lv_sub hl [1, 2] rfl) hf
