/-! SecondLife.spark(I)I -/
def f_X11_spark_72 (n : Nat) (z : Sh) (h : Hp) (k24 : Nat → Int32 → Int32 → Int32 → Int32 → Option (Int32)) (v0 : Nat) (v1 : Int32) (v2 : Int32) (v3 : Int32) (v4 : Int32) : Option (Int32) :=
  (some (v4 + 1)).bind fun x1 =>
  k24 v0 v1 v2 v3 x1
def f_X11_spark_24 (n : Nat) (z : Sh) (h : Hp) : Nat → Nat → Int32 → Int32 → Int32 → Int32 → Option (Int32)
  | 0, _, _, _, _, _ => none
  | i + 1, v0, v1, v2, v3, v4 =>
    (gR z h 11 v0 4).bind fun a1 =>
    (f_X5_everybody z h a1).bind fun x2 =>
    if x2 < v4 then
      some v2
    else
      (f_J6_bitCount_0f7a4 z h v4).bind fun x4 =>
      if v3 ≤ x4 then
        f_X11_spark_72 n z h (f_X11_spark_24 n z h i) v0 v1 v2 v3 v4
      else
        (gR z h 11 v0 4).bind fun a6 =>
        (f_X5_runOf n z h a6 v4 0).bind fun x7 =>
        (f_J6_bitCount_0f7a4 z h x7).bind fun x8 =>
        if x8 < v1 then
          f_X11_spark_72 n z h (f_X11_spark_24 n z h i) v0 v1 v2 v3 v4
        else
          f_X11_spark_72 n z h (f_X11_spark_24 n z h i) v0 v1 v4 x4 v4
def f_X11_spark_11 (n : Nat) (z : Sh) (h : Hp) : Option (Int32) :=
  (f_X11_refused z h 3).bind fun x1 =>
  some x1
def f_X11_spark (n : Nat) (z : Sh) (h : Hp) (v0 : Nat) (v1 : Int32) : Option (Int32) :=
  if z.K v0 = 11 then
    if v1 < 1 then
      f_X11_spark_11 n z h
    else
      if v1 ≤ 6 then
        f_X11_spark_24 n z h n v0 v1 (-1) 7 0
      else
        f_X11_spark_11 n z h
  else none
theorem k_X11_spark {n : Nat} {z : Sh} {h : Hp} {v0 : Nat} {v1 : Int32} {w : Int32} (hf : f_X11_spark n z h v0 v1 = some w) : z.K v0 = 11 := by
  unfold f_X11_spark at hf
  exact (if_some hf).1
set_option maxHeartbeats 4000000 in
theorem w_X11_spark_72 {p : Program} {l : Launch} {e : Env} {s : State} {m : MethodId} {args : Array Value} {below : List Frame} {meth : Method} {c : Code} {s0 : State} {E : Ev} {z : Sh} {h : Hp} {n : Nat} {k24 : Nat → Int32 → Int32 → Int32 → Int32 → Option (Int32)} {r : Int32} (G : Gl s0 E) (B : Bd p s0 s E m c cX11_spark 6 RX11) (hz : s0.heap.size ≤ z.sz) (hc0 : s.heap.size + 0 = z.sz) (hr : meth.sig.returnType = (some .int)) (hlk : meth.locks = false) (hk24 : ∀ (v0 : Nat) (v1 : Int32) (v2 : Int32) (v3 : Int32) (v4 : Int32) (H : Heap) (locs : List Loc) (ls : Array Slot), Pw s0 s E z h H locs → lv_has ls 6 [(0, .ref v0), (1, .int v1), (2, .int v2), (3, .int v3), (4, .int v4)] → k24 v0 v1 v2 v3 v4 = some r → W p l e (rmO 3 73) s m args below meth c H locs 0 0 (Zt below s0 E z h (some (.int r)) args s 0 0) (F0 m 24 ls [])) : ∀ (v0 : Nat) (v1 : Int32) (v2 : Int32) (v3 : Int32) (v4 : Int32) (H : Heap) (locs : List Loc) (ls : Array Slot), Pw s0 s E z h H locs → lv_has ls 6 [(0, .ref v0), (1, .int v1), (2, .int v2), (3, .int v3), (4, .int v4)] → f_X11_spark_72 n z h k24 v0 v1 v2 v3 v4 = some r → W p l e (rmO 3 73) s m args below meth c H locs 0 0 (Zt below s0 E z h (some (.int r)) args s 0 0) (F0 m 72 ls []) := by
  have hx := B.1
  have hb := B.2.1
  intro v0 v1 v2 v3 v4 H locs ls hw hl hf
  unfold f_X11_spark_72 at hf
  obtain ⟨x1, e, hf⟩ := ob hf
  refine lv_iinc (v := x1) (lv' := [(4, .int x1), (0, .ref v0), (1, .int v1), (2, .int v2), (3, .int v3)]) hx hb dX11_spark_72 hl (k := 4) rfl (Option.some.inj e) (by decide) rfl (fun ls hl => ?_)
  refine lv_goto (tgt := 24) hx hb dX11_spark_75 (by decide) ?_
  exact hk24 v0 v1 v2 v3 x1 _ _ _ hw (lv_sub hl [1, 2, 3, 4, 0] rfl) hf
set_option maxHeartbeats 4000000 in
theorem w_X11_spark_24 {p : Program} {l : Launch} {e : Env} {s : State} {m : MethodId} {args : Array Value} {below : List Frame} {meth : Method} {c : Code} {s0 : State} {E : Ev} {z : Sh} {h : Hp} {n : Nat} {r : Int32} (G : Gl s0 E) (B : Bd p s0 s E m c cX11_spark 6 RX11) (hz : s0.heap.size ≤ z.sz) (hc0 : s.heap.size + 0 = z.sz) (hr : meth.sig.returnType = (some .int)) (hlk : meth.locks = false) : ∀ (i : Nat), ∀ (v0 : Nat) (v1 : Int32) (v2 : Int32) (v3 : Int32) (v4 : Int32) (H : Heap) (locs : List Loc) (ls : Array Slot), Pw s0 s E z h H locs → lv_has ls 6 [(0, .ref v0), (1, .int v1), (2, .int v2), (3, .int v3), (4, .int v4)] → f_X11_spark_24 n z h i v0 v1 v2 v3 v4 = some r → W p l e (rmO 3 73) s m args below meth c H locs 0 0 (Zt below s0 E z h (some (.int r)) args s 0 0) (F0 m 24 ls []) := by
  have hx := B.1
  have hb := B.2.1
  intro i
  induction i with
  | zero =>
    intro v0 v1 v2 v3 v4 H locs ls hw hl hf
    have hf := (f_X11_spark_24.eq_1 ..).symm.trans hf
    cases hf
  | succ i ih =>
    intro v0 v1 v2 v3 v4 H locs ls hw hl hf
    have hf := (f_X11_spark_24.eq_2 ..).symm.trans hf
    refine lv_iload hx hb dX11_spark_24 (lv_at hl 4 rfl) ?_
    refine lv_aload_n hx hb dX11_spark_26 rfl (lv_at hl 0 rfl) ?_
    obtain ⟨a1, e, hf⟩ := ob hf
    refine q_getR e B hw fd_11_4.1 fd_11_4.2.1 fd_11_4.2.2.1 fd_11_4.2.2.2.1 fd_11_4.2.2.2.2 rfl tw_2_106 dX11_spark_27 ?_
    obtain ⟨x2, e, hf⟩ := ob hf
    refine q_callVN (As := []) (rest := [.int v4]) (st1 := [.int x2, .int v4]) (c_X5_everybody G e) B hw hz hc0 (k_X5_everybody e) (by decide) (ci := 5) rfl rfl my_X5_everybody mv_X5_everybody tw_5_211 ⟨Nat.le_of_ble_eq_true rfl, Nat.le_of_ble_eq_true rfl⟩ ⟨Nat.zero_le _, Nat.zero_le _⟩ rfl hl.1 rfl rfl (Nat.le_of_ble_eq_true rfl) dX11_spark_30 (fun H locs hw => ?_)
    refine lv_icmp_gt (tgt := 78) hx hb dX11_spark_33 (by decide) (fun c3 => ?_) (fun c3 => ?_)
    · have hf := (if_pos c3).symm.trans hf
      refine lv_iload_n hx hb dX11_spark_78 rfl (lv_at hl 2 rfl) ?_
      obtain rfl := so hf
      exact q_iret B hw hz hc0 hr hlk dX11_spark_79
    · have hf := (if_neg c3).symm.trans hf
      refine lv_iload hx hb dX11_spark_36 (lv_at hl 4 rfl) ?_
      obtain ⟨x4, e, hf⟩ := ob hf
      refine q_callS (As := [.int v4]) (rest := []) (st1 := [.int x4]) (c_J6_bitCount_0f7a4 G e) B hw hz hc0 my_J6_bitCount_0f7a4 mv_J6_bitCount_0f7a4 tw_5_212 ⟨Nat.le_of_ble_eq_true rfl, Nat.le_of_ble_eq_true rfl⟩ ⟨Nat.zero_le _, Nat.zero_le _⟩ rfl hl.1 rfl rfl (Nat.le_of_ble_eq_true rfl) dX11_spark_38 (fun H locs hw => ?_)
      refine lv_istore (lv' := [(5, .int x4), (0, .ref v0), (1, .int v1), (2, .int v2), (3, .int v3), (4, .int v4)]) hx hb dX11_spark_41 hl (by decide) rfl (fun ls hl => ?_)
      refine lv_iload hx hb dX11_spark_43 (lv_at hl 0 rfl) ?_
      refine lv_iload_n hx hb dX11_spark_45 rfl (lv_at hl 4 rfl) ?_
      refine lv_icmp_ge (tgt := 72) hx hb dX11_spark_46 (by decide) (fun c5 => ?_) (fun c5 => ?_)
      · have hf := (if_pos c5).symm.trans hf
        exact w_X11_spark_72 G B hz hc0 hr hlk ih v0 v1 v2 v3 v4 _ _ _ hw (lv_sub hl [1, 2, 3, 4, 5] rfl) hf
      · have hf := (if_neg c5).symm.trans hf
        refine lv_aload_n hx hb dX11_spark_49 rfl (lv_at hl 1 rfl) ?_
        obtain ⟨a6, e, hf⟩ := ob hf
        refine q_getR e B hw fd_11_4.1 fd_11_4.2.1 fd_11_4.2.2.1 fd_11_4.2.2.2.1 fd_11_4.2.2.2.2 rfl tw_2_106 dX11_spark_50 ?_
        refine lv_iload hx hb dX11_spark_53 (lv_at hl 5 rfl) ?_
        refine lv_iconst (v := 0) hx hb dX11_spark_55 (by decide) ?_
        obtain ⟨x7, e, hf⟩ := ob hf
        refine q_callVN (As := [.int v4, .int 0]) (rest := []) (st1 := [.int x7]) (c_X5_runOf G e) B hw hz hc0 (k_X5_runOf e) (by decide) (ci := 5) rfl rfl my_X5_runOf mv_X5_runOf tw_5_185 ⟨Nat.le_of_ble_eq_true rfl, Nat.le_of_ble_eq_true rfl⟩ ⟨Nat.zero_le _, Nat.zero_le _⟩ rfl hl.1 rfl rfl (Nat.le_of_ble_eq_true rfl) dX11_spark_56 (fun H locs hw => ?_)
        obtain ⟨x8, e, hf⟩ := ob hf
        refine q_callS (As := [.int x7]) (rest := []) (st1 := [.int x8]) (c_J6_bitCount_0f7a4 G e) B hw hz hc0 my_J6_bitCount_0f7a4 mv_J6_bitCount_0f7a4 tw_5_212 ⟨Nat.le_of_ble_eq_true rfl, Nat.le_of_ble_eq_true rfl⟩ ⟨Nat.zero_le _, Nat.zero_le _⟩ rfl hl.1 rfl rfl (Nat.le_of_ble_eq_true rfl) dX11_spark_59 (fun H locs hw => ?_)
        refine lv_iload_n hx hb dX11_spark_62 rfl (lv_at hl 2 rfl) ?_
        refine lv_icmp_lt (tgt := 72) hx hb dX11_spark_63 (by decide) (fun c9 => ?_) (fun c9 => ?_)
        · have hf := (if_pos c9).symm.trans hf
          exact w_X11_spark_72 G B hz hc0 hr hlk ih v0 v1 v2 v3 v4 _ _ _ hw (lv_sub hl [1, 2, 3, 4, 5] rfl) hf
        · have hf := (if_neg c9).symm.trans hf
          refine lv_iload hx hb dX11_spark_66 (lv_at hl 0 rfl) ?_
          refine lv_istore_n (lv' := [(3, .int x4), (5, .int x4), (0, .ref v0), (1, .int v1), (2, .int v2), (4, .int v4)]) hx hb dX11_spark_68 rfl hl (by decide) rfl (fun ls hl => ?_)
          refine lv_iload hx hb dX11_spark_69 (lv_at hl 5 rfl) ?_
          refine lv_istore_n (lv' := [(2, .int v4), (3, .int x4), (5, .int x4), (0, .ref v0), (1, .int v1), (4, .int v4)]) hx hb dX11_spark_71 rfl hl (by decide) rfl (fun ls hl => ?_)
          exact w_X11_spark_72 G B hz hc0 hr hlk ih v0 v1 v4 x4 v4 _ _ _ hw (lv_sub hl [3, 4, 0, 1, 5] rfl) hf
set_option maxHeartbeats 4000000 in
theorem w_X11_spark_11 {p : Program} {l : Launch} {e : Env} {s : State} {m : MethodId} {args : Array Value} {below : List Frame} {meth : Method} {c : Code} {s0 : State} {E : Ev} {z : Sh} {h : Hp} {n : Nat} {r : Int32} (G : Gl s0 E) (B : Bd p s0 s E m c cX11_spark 6 RX11) (hz : s0.heap.size ≤ z.sz) (hc0 : s.heap.size + 0 = z.sz) (hr : meth.sig.returnType = (some .int)) (hlk : meth.locks = false) : ∀ (H : Heap) (locs : List Loc) (ls : Array Slot), Pw s0 s E z h H locs → lv_has ls 6 [] → f_X11_spark_11 n z h = some r → W p l e (rmO 3 73) s m args below meth c H locs 0 0 (Zt below s0 E z h (some (.int r)) args s 0 0) (F0 m 11 ls []) := by
  have hx := B.1
  have hb := B.2.1
  intro  H locs ls hw hl hf
  unfold f_X11_spark_11 at hf
  refine lv_iconst (v := 3) hx hb dX11_spark_11 (by decide) ?_
  obtain ⟨x1, e, hf⟩ := ob hf
  refine q_callS (As := [.int 3]) (rest := []) (st1 := [.int x1]) (c_X11_refused G e) B hw hz hc0 my_X11_refused mv_X11_refused tw_2_155 ⟨Nat.le_of_ble_eq_true rfl, Nat.le_of_ble_eq_true rfl⟩ ⟨Nat.zero_le _, Nat.zero_le _⟩ rfl hl.1 rfl rfl (Nat.le_of_ble_eq_true rfl) dX11_spark_12 (fun H locs hw => ?_)
  obtain rfl := so hf
  exact q_iret B hw hz hc0 hr hlk dX11_spark_15
set_option maxHeartbeats 4000000 in
theorem c_X11_spark {l : Launch} {s0 : State} {E : Ev} (G : Gl s0 E) {n : Nat} {z : Sh} {h : Hp} {v0 : Nat} {v1 : Int32} {r : Int32} (hf : f_X11_spark n z h v0 v1 = some r) : Ct l s0 E yX11_spark cX11_spark 6 (some .int) 3 73 [.ref v0, .int v1] z h h (some (.int r)) := by
  refine Ct.of G (by decide) (Nat.le_of_ble_eq_true rfl) ?_
  intro p e s m below meth c ls B hw hz hc0 hr hlk hl
  have B : Bd p s0 s E m c cX11_spark 6 RX11 := B
  have hx := B.1
  have hb := B.2.1
  have hl : lv_has ls 6 [(0, .ref v0), (1, .int v1)] := hl
  unfold f_X11_spark at hf
  obtain ⟨_, hf⟩ := if_some hf
  refine lv_iload_n hx hb dX11_spark_0 rfl (lv_at hl 1 rfl) ?_
  refine lv_iconst (v := 1) hx hb dX11_spark_1 (by decide) ?_
  refine lv_icmp_lt (tgt := 11) hx hb dX11_spark_2 (by decide) (fun c1 => ?_) (fun c1 => ?_)
  · have hf := (if_pos c1).symm.trans hf
    exact w_X11_spark_11 G B hz hc0 hr hlk   _ _ _ hw (lv_sub hl [] rfl) hf
  · have hf := (if_neg c1).symm.trans hf
    refine lv_iload_n hx hb dX11_spark_5 rfl (lv_at hl 1 rfl) ?_
    refine lv_bipush (v := 6) hx hb dX11_spark_6 (by decide) ?_
    refine lv_icmp_le (tgt := 16) hx hb dX11_spark_8 (by decide) (fun c2 => ?_) (fun c2 => ?_)
    · have hf := (if_pos c2).symm.trans hf
      refine lv_iconst (v := (-1)) hx hb dX11_spark_16 (by decide) ?_
      refine lv_istore_n (lv' := [(2, .int (-1)), (0, .ref v0), (1, .int v1)]) hx hb dX11_spark_17 rfl hl (by decide) rfl (fun ls hl => ?_)
      refine lv_bipush (v := 7) hx hb dX11_spark_18 (by decide) ?_
      refine lv_istore_n (lv' := [(3, .int 7), (2, .int (-1)), (0, .ref v0), (1, .int v1)]) hx hb dX11_spark_20 rfl hl (by decide) rfl (fun ls hl => ?_)
      refine lv_iconst (v := 0) hx hb dX11_spark_21 (by decide) ?_
      refine lv_istore (lv' := [(4, .int 0), (3, .int 7), (2, .int (-1)), (0, .ref v0), (1, .int v1)]) hx hb dX11_spark_22 hl (by decide) rfl (fun ls hl => ?_)
      exact w_X11_spark_24 G B hz hc0 hr hlk  n v0 v1 (-1) 7 0 _ _ _ hw (lv_sub hl [3, 4, 2, 1, 0] rfl) hf
    · have hf := (if_neg c2).symm.trans hf
      exact w_X11_spark_11 G B hz hc0 hr hlk   _ _ _ hw (lv_sub hl [] rfl) hf
/-! SecondLife.calm(II)I -/
def f_X11_calm_92 (n : Nat) (z : Sh) (h : Hp) (k35 : Nat → Int32 → Int32 → Int32 → Int32 → Int32 → Option (Int32)) (v0 : Nat) (v1 : Int32) (v2 : Int32) (v3 : Int32) (v4 : Int32) (v5 : Int32) : Option (Int32) :=
  (some (v5 + 1)).bind fun x1 =>
  k35 v0 v1 v2 v3 v4 x1
def f_X11_calm_35 (n : Nat) (z : Sh) (h : Hp) : Nat → Nat → Int32 → Int32 → Int32 → Int32 → Int32 → Option (Int32)
  | 0, _, _, _, _, _, _ => none
  | i + 1, v0, v1, v2, v3, v4, v5 =>
    (gR z h 11 v0 4).bind fun a1 =>
    (f_X5_everybody z h a1).bind fun x2 =>
    if x2 < v5 then
      some v3
    else
      (f_J6_bitCount_0f7a4 z h v5).bind fun x4 =>
      if (v5 &&& v1) = 0 then
        if v4 ≤ x4 then
          f_X11_calm_92 n z h (f_X11_calm_35 n z h i) v0 v1 v2 v3 v4 v5
        else
          (gR z h 11 v0 4).bind fun a7 =>
          (f_X5_runOf n z h a7 v1 v5).bind fun x8 =>
          (f_J6_bitCount_0f7a4 z h x8).bind fun x9 =>
          if v2 < x9 then
            f_X11_calm_92 n z h (f_X11_calm_35 n z h i) v0 v1 v2 v3 v4 v5
          else
            f_X11_calm_92 n z h (f_X11_calm_35 n z h i) v0 v1 v2 v5 x4 v5
      else
        f_X11_calm_92 n z h (f_X11_calm_35 n z h i) v0 v1 v2 v3 v4 v5
def f_X11_calm_21 (n : Nat) (z : Sh) (h : Hp) : Option (Int32) :=
  (f_X11_refused z h 3).bind fun x1 =>
  some x1
def f_X11_calm (n : Nat) (z : Sh) (h : Hp) (v0 : Nat) (v1 : Int32) (v2 : Int32) : Option (Int32) :=
  if z.K v0 = 11 then
    (gR z h 11 v0 4).bind fun a1 =>
    (f_X5_isSet z h a1 v1).bind fun x2 =>
    if x2 = 0 then
      f_X11_calm_21 n z h
    else
      if v2 < 0 then
        f_X11_calm_21 n z h
      else
        if v2 ≤ 6 then
          f_X11_calm_35 n z h n v0 v1 v2 (-1) 7 0
        else
          f_X11_calm_21 n z h
  else none
theorem k_X11_calm {n : Nat} {z : Sh} {h : Hp} {v0 : Nat} {v1 : Int32} {v2 : Int32} {w : Int32} (hf : f_X11_calm n z h v0 v1 v2 = some w) : z.K v0 = 11 := by
  unfold f_X11_calm at hf
  exact (if_some hf).1
set_option maxHeartbeats 4000000 in
theorem w_X11_calm_92 {p : Program} {l : Launch} {e : Env} {s : State} {m : MethodId} {args : Array Value} {below : List Frame} {meth : Method} {c : Code} {s0 : State} {E : Ev} {z : Sh} {h : Hp} {n : Nat} {k35 : Nat → Int32 → Int32 → Int32 → Int32 → Int32 → Option (Int32)} {r : Int32} (G : Gl s0 E) (B : Bd p s0 s E m c cX11_calm 7 RX11) (hz : s0.heap.size ≤ z.sz) (hc0 : s.heap.size + 0 = z.sz) (hr : meth.sig.returnType = (some .int)) (hlk : meth.locks = false) (hk35 : ∀ (v0 : Nat) (v1 : Int32) (v2 : Int32) (v3 : Int32) (v4 : Int32) (v5 : Int32) (H : Heap) (locs : List Loc) (ls : Array Slot), Pw s0 s E z h H locs → lv_has ls 7 [(0, .ref v0), (1, .int v1), (2, .int v2), (3, .int v3), (4, .int v4), (5, .int v5)] → k35 v0 v1 v2 v3 v4 v5 = some r → W p l e (rmO 3 73) s m args below meth c H locs 0 0 (Zt below s0 E z h (some (.int r)) args s 0 0) (F0 m 35 ls [])) : ∀ (v0 : Nat) (v1 : Int32) (v2 : Int32) (v3 : Int32) (v4 : Int32) (v5 : Int32) (H : Heap) (locs : List Loc) (ls : Array Slot), Pw s0 s E z h H locs → lv_has ls 7 [(0, .ref v0), (1, .int v1), (2, .int v2), (3, .int v3), (4, .int v4), (5, .int v5)] → f_X11_calm_92 n z h k35 v0 v1 v2 v3 v4 v5 = some r → W p l e (rmO 3 73) s m args below meth c H locs 0 0 (Zt below s0 E z h (some (.int r)) args s 0 0) (F0 m 92 ls []) := by
  have hx := B.1
  have hb := B.2.1
  intro v0 v1 v2 v3 v4 v5 H locs ls hw hl hf
  unfold f_X11_calm_92 at hf
  obtain ⟨x1, e, hf⟩ := ob hf
  refine lv_iinc (v := x1) (lv' := [(5, .int x1), (0, .ref v0), (1, .int v1), (2, .int v2), (3, .int v3), (4, .int v4)]) hx hb dX11_calm_92 hl (k := 5) rfl (Option.some.inj e) (by decide) rfl (fun ls hl => ?_)
  refine lv_goto (tgt := 35) hx hb dX11_calm_95 (by decide) ?_
  exact hk35 v0 v1 v2 v3 v4 x1 _ _ _ hw (lv_sub hl [1, 2, 3, 4, 5, 0] rfl) hf
set_option maxHeartbeats 4000000 in
theorem w_X11_calm_35 {p : Program} {l : Launch} {e : Env} {s : State} {m : MethodId} {args : Array Value} {below : List Frame} {meth : Method} {c : Code} {s0 : State} {E : Ev} {z : Sh} {h : Hp} {n : Nat} {r : Int32} (G : Gl s0 E) (B : Bd p s0 s E m c cX11_calm 7 RX11) (hz : s0.heap.size ≤ z.sz) (hc0 : s.heap.size + 0 = z.sz) (hr : meth.sig.returnType = (some .int)) (hlk : meth.locks = false) : ∀ (i : Nat), ∀ (v0 : Nat) (v1 : Int32) (v2 : Int32) (v3 : Int32) (v4 : Int32) (v5 : Int32) (H : Heap) (locs : List Loc) (ls : Array Slot), Pw s0 s E z h H locs → lv_has ls 7 [(0, .ref v0), (1, .int v1), (2, .int v2), (3, .int v3), (4, .int v4), (5, .int v5)] → f_X11_calm_35 n z h i v0 v1 v2 v3 v4 v5 = some r → W p l e (rmO 3 73) s m args below meth c H locs 0 0 (Zt below s0 E z h (some (.int r)) args s 0 0) (F0 m 35 ls []) := by
  have hx := B.1
  have hb := B.2.1
  intro i
  induction i with
  | zero =>
    intro v0 v1 v2 v3 v4 v5 H locs ls hw hl hf
    have hf := (f_X11_calm_35.eq_1 ..).symm.trans hf
    cases hf
  | succ i ih =>
    intro v0 v1 v2 v3 v4 v5 H locs ls hw hl hf
    have hf := (f_X11_calm_35.eq_2 ..).symm.trans hf
    refine lv_iload hx hb dX11_calm_35 (lv_at hl 5 rfl) ?_
    refine lv_aload_n hx hb dX11_calm_37 rfl (lv_at hl 0 rfl) ?_
    obtain ⟨a1, e, hf⟩ := ob hf
    refine q_getR e B hw fd_11_4.1 fd_11_4.2.1 fd_11_4.2.2.1 fd_11_4.2.2.2.1 fd_11_4.2.2.2.2 rfl tw_2_106 dX11_calm_38 ?_
    obtain ⟨x2, e, hf⟩ := ob hf
    refine q_callVN (As := []) (rest := [.int v5]) (st1 := [.int x2, .int v5]) (c_X5_everybody G e) B hw hz hc0 (k_X5_everybody e) (by decide) (ci := 5) rfl rfl my_X5_everybody mv_X5_everybody tw_5_211 ⟨Nat.le_of_ble_eq_true rfl, Nat.le_of_ble_eq_true rfl⟩ ⟨Nat.zero_le _, Nat.zero_le _⟩ rfl hl.1 rfl rfl (Nat.le_of_ble_eq_true rfl) dX11_calm_41 (fun H locs hw => ?_)
    refine lv_icmp_gt (tgt := 98) hx hb dX11_calm_44 (by decide) (fun c3 => ?_) (fun c3 => ?_)
    · have hf := (if_pos c3).symm.trans hf
      refine lv_iload_n hx hb dX11_calm_98 rfl (lv_at hl 3 rfl) ?_
      obtain rfl := so hf
      exact q_iret B hw hz hc0 hr hlk dX11_calm_99
    · have hf := (if_neg c3).symm.trans hf
      refine lv_iload hx hb dX11_calm_47 (lv_at hl 5 rfl) ?_
      obtain ⟨x4, e, hf⟩ := ob hf
      refine q_callS (As := [.int v5]) (rest := []) (st1 := [.int x4]) (c_J6_bitCount_0f7a4 G e) B hw hz hc0 my_J6_bitCount_0f7a4 mv_J6_bitCount_0f7a4 tw_5_212 ⟨Nat.le_of_ble_eq_true rfl, Nat.le_of_ble_eq_true rfl⟩ ⟨Nat.zero_le _, Nat.zero_le _⟩ rfl hl.1 rfl rfl (Nat.le_of_ble_eq_true rfl) dX11_calm_49 (fun H locs hw => ?_)
      refine lv_istore (lv' := [(6, .int x4), (0, .ref v0), (1, .int v1), (2, .int v2), (3, .int v3), (4, .int v4), (5, .int v5)]) hx hb dX11_calm_52 hl (by decide) rfl (fun ls hl => ?_)
      refine lv_iload hx hb dX11_calm_54 (lv_at hl 6 rfl) ?_
      refine lv_iload_n hx hb dX11_calm_56 rfl (lv_at hl 2 rfl) ?_
      refine lv_iand hx hb dX11_calm_57 ?_
      refine lv_if_ne (tgt := 92) hx hb dX11_calm_58 (by decide) (fun c5 => ?_) (fun c5 => ?_)
      · have hf := (if_neg c5).symm.trans hf
        exact w_X11_calm_92 G B hz hc0 hr hlk ih v0 v1 v2 v3 v4 v5 _ _ _ hw (lv_sub hl [1, 2, 3, 4, 5, 6] rfl) hf
      · have hf := (if_pos c5).symm.trans hf
        refine lv_iload hx hb dX11_calm_61 (lv_at hl 0 rfl) ?_
        refine lv_iload hx hb dX11_calm_63 (lv_at hl 5 rfl) ?_
        refine lv_icmp_ge (tgt := 92) hx hb dX11_calm_65 (by decide) (fun c6 => ?_) (fun c6 => ?_)
        · have hf := (if_pos c6).symm.trans hf
          exact w_X11_calm_92 G B hz hc0 hr hlk ih v0 v1 v2 v3 v4 v5 _ _ _ hw (lv_sub hl [1, 2, 3, 4, 5, 6] rfl) hf
        · have hf := (if_neg c6).symm.trans hf
          refine lv_aload_n hx hb dX11_calm_68 rfl (lv_at hl 1 rfl) ?_
          obtain ⟨a7, e, hf⟩ := ob hf
          refine q_getR e B hw fd_11_4.1 fd_11_4.2.1 fd_11_4.2.2.1 fd_11_4.2.2.2.1 fd_11_4.2.2.2.2 rfl tw_2_106 dX11_calm_69 ?_
          refine lv_iload_n hx hb dX11_calm_72 rfl (lv_at hl 2 rfl) ?_
          refine lv_iload hx hb dX11_calm_73 (lv_at hl 6 rfl) ?_
          obtain ⟨x8, e, hf⟩ := ob hf
          refine q_callVN (As := [.int v1, .int v5]) (rest := []) (st1 := [.int x8]) (c_X5_runOf G e) B hw hz hc0 (k_X5_runOf e) (by decide) (ci := 5) rfl rfl my_X5_runOf mv_X5_runOf tw_5_185 ⟨Nat.le_of_ble_eq_true rfl, Nat.le_of_ble_eq_true rfl⟩ ⟨Nat.zero_le _, Nat.zero_le _⟩ rfl hl.1 rfl rfl (Nat.le_of_ble_eq_true rfl) dX11_calm_75 (fun H locs hw => ?_)
          obtain ⟨x9, e, hf⟩ := ob hf
          refine q_callS (As := [.int x8]) (rest := []) (st1 := [.int x9]) (c_J6_bitCount_0f7a4 G e) B hw hz hc0 my_J6_bitCount_0f7a4 mv_J6_bitCount_0f7a4 tw_5_212 ⟨Nat.le_of_ble_eq_true rfl, Nat.le_of_ble_eq_true rfl⟩ ⟨Nat.zero_le _, Nat.zero_le _⟩ rfl hl.1 rfl rfl (Nat.le_of_ble_eq_true rfl) dX11_calm_78 (fun H locs hw => ?_)
          refine lv_iload_n hx hb dX11_calm_81 rfl (lv_at hl 3 rfl) ?_
          refine lv_icmp_gt (tgt := 92) hx hb dX11_calm_82 (by decide) (fun c10 => ?_) (fun c10 => ?_)
          · have hf := (if_pos c10).symm.trans hf
            exact w_X11_calm_92 G B hz hc0 hr hlk ih v0 v1 v2 v3 v4 v5 _ _ _ hw (lv_sub hl [1, 2, 3, 4, 5, 6] rfl) hf
          · have hf := (if_neg c10).symm.trans hf
            refine lv_iload hx hb dX11_calm_85 (lv_at hl 0 rfl) ?_
            refine lv_istore (lv' := [(4, .int x4), (6, .int x4), (0, .ref v0), (1, .int v1), (2, .int v2), (3, .int v3), (5, .int v5)]) hx hb dX11_calm_87 hl (by decide) rfl (fun ls hl => ?_)
            refine lv_iload hx hb dX11_calm_89 (lv_at hl 6 rfl) ?_
            refine lv_istore_n (lv' := [(3, .int v5), (4, .int x4), (6, .int x4), (0, .ref v0), (1, .int v1), (2, .int v2), (5, .int v5)]) hx hb dX11_calm_91 rfl hl (by decide) rfl (fun ls hl => ?_)
            exact w_X11_calm_92 G B hz hc0 hr hlk ih v0 v1 v2 v5 x4 v5 _ _ _ hw (lv_sub hl [3, 4, 5, 0, 1, 6] rfl) hf
set_option maxHeartbeats 4000000 in
theorem w_X11_calm_21 {p : Program} {l : Launch} {e : Env} {s : State} {m : MethodId} {args : Array Value} {below : List Frame} {meth : Method} {c : Code} {s0 : State} {E : Ev} {z : Sh} {h : Hp} {n : Nat} {r : Int32} (G : Gl s0 E) (B : Bd p s0 s E m c cX11_calm 7 RX11) (hz : s0.heap.size ≤ z.sz) (hc0 : s.heap.size + 0 = z.sz) (hr : meth.sig.returnType = (some .int)) (hlk : meth.locks = false) : ∀ (H : Heap) (locs : List Loc) (ls : Array Slot), Pw s0 s E z h H locs → lv_has ls 7 [] → f_X11_calm_21 n z h = some r → W p l e (rmO 3 73) s m args below meth c H locs 0 0 (Zt below s0 E z h (some (.int r)) args s 0 0) (F0 m 21 ls []) := by
  have hx := B.1
  have hb := B.2.1
  intro  H locs ls hw hl hf
  unfold f_X11_calm_21 at hf
  refine lv_iconst (v := 3) hx hb dX11_calm_21 (by decide) ?_
  obtain ⟨x1, e, hf⟩ := ob hf
  refine q_callS (As := [.int 3]) (rest := []) (st1 := [.int x1]) (c_X11_refused G e) B hw hz hc0 my_X11_refused mv_X11_refused tw_2_155 ⟨Nat.le_of_ble_eq_true rfl, Nat.le_of_ble_eq_true rfl⟩ ⟨Nat.zero_le _, Nat.zero_le _⟩ rfl hl.1 rfl rfl (Nat.le_of_ble_eq_true rfl) dX11_calm_22 (fun H locs hw => ?_)
  obtain rfl := so hf
  exact q_iret B hw hz hc0 hr hlk dX11_calm_25
set_option maxHeartbeats 4000000 in
theorem c_X11_calm {l : Launch} {s0 : State} {E : Ev} (G : Gl s0 E) {n : Nat} {z : Sh} {h : Hp} {v0 : Nat} {v1 : Int32} {v2 : Int32} {r : Int32} (hf : f_X11_calm n z h v0 v1 v2 = some r) : Ct l s0 E yX11_calm cX11_calm 7 (some .int) 3 73 [.ref v0, .int v1, .int v2] z h h (some (.int r)) := by
  refine Ct.of G (by decide) (Nat.le_of_ble_eq_true rfl) ?_
  intro p e s m below meth c ls B hw hz hc0 hr hlk hl
  have B : Bd p s0 s E m c cX11_calm 7 RX11 := B
  have hx := B.1
  have hb := B.2.1
  have hl : lv_has ls 7 [(0, .ref v0), (1, .int v1), (2, .int v2)] := hl
  unfold f_X11_calm at hf
  obtain ⟨_, hf⟩ := if_some hf
  refine lv_aload_n hx hb dX11_calm_0 rfl (lv_at hl 0 rfl) ?_
  obtain ⟨a1, e, hf⟩ := ob hf
  refine q_getR e B hw fd_11_4.1 fd_11_4.2.1 fd_11_4.2.2.1 fd_11_4.2.2.2.1 fd_11_4.2.2.2.2 rfl tw_2_106 dX11_calm_1 ?_
  refine lv_iload_n hx hb dX11_calm_4 rfl (lv_at hl 1 rfl) ?_
  obtain ⟨x2, e, hf⟩ := ob hf
  refine q_callVN (As := [.int v1]) (rest := []) (st1 := [.int x2]) (c_X5_isSet G e) B hw hz hc0 (k_X5_isSet e) (by decide) (ci := 5) rfl rfl my_X5_isSet mv_X5_isSet tw_5_177 ⟨Nat.le_of_ble_eq_true rfl, Nat.le_of_ble_eq_true rfl⟩ ⟨Nat.zero_le _, Nat.zero_le _⟩ rfl hl.1 rfl rfl (Nat.le_of_ble_eq_true rfl) dX11_calm_5 (fun H locs hw => ?_)
  refine lv_if_eq (tgt := 21) hx hb dX11_calm_8 (by decide) (fun c3 => ?_) (fun c3 => ?_)
  · have hf := (if_pos c3).symm.trans hf
    exact w_X11_calm_21 G B hz hc0 hr hlk   _ _ _ hw (lv_sub hl [] rfl) hf
  · have hf := (if_neg c3).symm.trans hf
    refine lv_iload_n hx hb dX11_calm_11 rfl (lv_at hl 2 rfl) ?_
    refine lv_if_lt (tgt := 21) hx hb dX11_calm_12 (by decide) (fun c4 => ?_) (fun c4 => ?_)
    · have hf := (if_pos c4).symm.trans hf
      exact w_X11_calm_21 G B hz hc0 hr hlk   _ _ _ hw (lv_sub hl [] rfl) hf
    · have hf := (if_neg c4).symm.trans hf
      refine lv_iload_n hx hb dX11_calm_15 rfl (lv_at hl 2 rfl) ?_
      refine lv_bipush (v := 6) hx hb dX11_calm_16 (by decide) ?_
      refine lv_icmp_le (tgt := 26) hx hb dX11_calm_18 (by decide) (fun c5 => ?_) (fun c5 => ?_)
      · have hf := (if_pos c5).symm.trans hf
        refine lv_iconst (v := (-1)) hx hb dX11_calm_26 (by decide) ?_
        refine lv_istore_n (lv' := [(3, .int (-1)), (0, .ref v0), (1, .int v1), (2, .int v2)]) hx hb dX11_calm_27 rfl hl (by decide) rfl (fun ls hl => ?_)
        refine lv_bipush (v := 7) hx hb dX11_calm_28 (by decide) ?_
        refine lv_istore (lv' := [(4, .int 7), (3, .int (-1)), (0, .ref v0), (1, .int v1), (2, .int v2)]) hx hb dX11_calm_30 hl (by decide) rfl (fun ls hl => ?_)
        refine lv_iconst (v := 0) hx hb dX11_calm_32 (by decide) ?_
        refine lv_istore (lv' := [(5, .int 0), (4, .int 7), (3, .int (-1)), (0, .ref v0), (1, .int v1), (2, .int v2)]) hx hb dX11_calm_33 hl (by decide) rfl (fun ls hl => ?_)
        exact w_X11_calm_35 G B hz hc0 hr hlk  n v0 v1 v2 (-1) 7 0 _ _ _ hw (lv_sub hl [3, 4, 5, 2, 1, 0] rfl) hf
      · have hf := (if_neg c5).symm.trans hf
        exact w_X11_calm_21 G B hz hc0 hr hlk   _ _ _ hw (lv_sub hl [] rfl) hf
/-! SecondLife.rests()I -/
def f_X11_rests_29 (n : Nat) (z : Sh) (h : Hp) (k4 : Nat → Int32 → Int32 → Option (Int32)) (v0 : Nat) (v1 : Int32) (v2 : Int32) : Option (Int32) :=
  (some (v2 + 1)).bind fun x1 =>
  k4 v0 v1 x1
def f_X11_rests_4 (n : Nat) (z : Sh) (h : Hp) : Nat → Nat → Int32 → Int32 → Option (Int32)
  | 0, _, _, _ => none
  | i + 1, v0, v1, v2 =>
    (gR z h 11 v0 4).bind fun a1 =>
    (f_X5_everybody z h a1).bind fun x2 =>
    if x2 < v2 then
      some v1
    else
      (gR z h 11 v0 4).bind fun a4 =>
      (f_X5_atRest n z h a4 v2).bind fun x5 =>
      if x5 = 0 then
        f_X11_rests_29 n z h (f_X11_rests_4 n z h i) v0 v1 v2
      else
        (some (v1 + 1)).bind fun x7 =>
        f_X11_rests_29 n z h (f_X11_rests_4 n z h i) v0 x7 v2
def f_X11_rests (n : Nat) (z : Sh) (h : Hp) (v0 : Nat) : Option (Int32) :=
  if z.K v0 = 11 then
    f_X11_rests_4 n z h n v0 0 0
  else none
theorem k_X11_rests {n : Nat} {z : Sh} {h : Hp} {v0 : Nat} {w : Int32} (hf : f_X11_rests n z h v0 = some w) : z.K v0 = 11 := by
  unfold f_X11_rests at hf
  exact (if_some hf).1
set_option maxHeartbeats 4000000 in
theorem w_X11_rests_29 {p : Program} {l : Launch} {e : Env} {s : State} {m : MethodId} {args : Array Value} {below : List Frame} {meth : Method} {c : Code} {s0 : State} {E : Ev} {z : Sh} {h : Hp} {n : Nat} {k4 : Nat → Int32 → Int32 → Option (Int32)} {r : Int32} (G : Gl s0 E) (B : Bd p s0 s E m c cX11_rests 3 RX11) (hz : s0.heap.size ≤ z.sz) (hc0 : s.heap.size + 0 = z.sz) (hr : meth.sig.returnType = (some .int)) (hlk : meth.locks = false) (hk4 : ∀ (v0 : Nat) (v1 : Int32) (v2 : Int32) (H : Heap) (locs : List Loc) (ls : Array Slot), Pw s0 s E z h H locs → lv_has ls 3 [(0, .ref v0), (1, .int v1), (2, .int v2)] → k4 v0 v1 v2 = some r → W p l e (rmO 2 48) s m args below meth c H locs 0 0 (Zt below s0 E z h (some (.int r)) args s 0 0) (F0 m 4 ls [])) : ∀ (v0 : Nat) (v1 : Int32) (v2 : Int32) (H : Heap) (locs : List Loc) (ls : Array Slot), Pw s0 s E z h H locs → lv_has ls 3 [(0, .ref v0), (1, .int v1), (2, .int v2)] → f_X11_rests_29 n z h k4 v0 v1 v2 = some r → W p l e (rmO 2 48) s m args below meth c H locs 0 0 (Zt below s0 E z h (some (.int r)) args s 0 0) (F0 m 29 ls []) := by
  have hx := B.1
  have hb := B.2.1
  intro v0 v1 v2 H locs ls hw hl hf
  unfold f_X11_rests_29 at hf
  obtain ⟨x1, e, hf⟩ := ob hf
  refine lv_iinc (v := x1) (lv' := [(2, .int x1), (0, .ref v0), (1, .int v1)]) hx hb dX11_rests_29 hl (k := 2) rfl (Option.some.inj e) (by decide) rfl (fun ls hl => ?_)
  refine lv_goto (tgt := 4) hx hb dX11_rests_32 (by decide) ?_
  exact hk4 v0 v1 x1 _ _ _ hw (lv_sub hl [1, 2, 0] rfl) hf
set_option maxHeartbeats 4000000 in
theorem w_X11_rests_4 {p : Program} {l : Launch} {e : Env} {s : State} {m : MethodId} {args : Array Value} {below : List Frame} {meth : Method} {c : Code} {s0 : State} {E : Ev} {z : Sh} {h : Hp} {n : Nat} {r : Int32} (G : Gl s0 E) (B : Bd p s0 s E m c cX11_rests 3 RX11) (hz : s0.heap.size ≤ z.sz) (hc0 : s.heap.size + 0 = z.sz) (hr : meth.sig.returnType = (some .int)) (hlk : meth.locks = false) : ∀ (i : Nat), ∀ (v0 : Nat) (v1 : Int32) (v2 : Int32) (H : Heap) (locs : List Loc) (ls : Array Slot), Pw s0 s E z h H locs → lv_has ls 3 [(0, .ref v0), (1, .int v1), (2, .int v2)] → f_X11_rests_4 n z h i v0 v1 v2 = some r → W p l e (rmO 2 48) s m args below meth c H locs 0 0 (Zt below s0 E z h (some (.int r)) args s 0 0) (F0 m 4 ls []) := by
  have hx := B.1
  have hb := B.2.1
  intro i
  induction i with
  | zero =>
    intro v0 v1 v2 H locs ls hw hl hf
    have hf := (f_X11_rests_4.eq_1 ..).symm.trans hf
    cases hf
  | succ i ih =>
    intro v0 v1 v2 H locs ls hw hl hf
    have hf := (f_X11_rests_4.eq_2 ..).symm.trans hf
    refine lv_iload_n hx hb dX11_rests_4 rfl (lv_at hl 2 rfl) ?_
    refine lv_aload_n hx hb dX11_rests_5 rfl (lv_at hl 0 rfl) ?_
    obtain ⟨a1, e, hf⟩ := ob hf
    refine q_getR e B hw fd_11_4.1 fd_11_4.2.1 fd_11_4.2.2.1 fd_11_4.2.2.2.1 fd_11_4.2.2.2.2 rfl tw_2_106 dX11_rests_6 ?_
    obtain ⟨x2, e, hf⟩ := ob hf
    refine q_callVN (As := []) (rest := [.int v2]) (st1 := [.int x2, .int v2]) (c_X5_everybody G e) B hw hz hc0 (k_X5_everybody e) (by decide) (ci := 5) rfl rfl my_X5_everybody mv_X5_everybody tw_5_211 ⟨Nat.le_of_ble_eq_true rfl, Nat.le_of_ble_eq_true rfl⟩ ⟨Nat.zero_le _, Nat.zero_le _⟩ rfl hl.1 rfl rfl (Nat.le_of_ble_eq_true rfl) dX11_rests_9 (fun H locs hw => ?_)
    refine lv_icmp_gt (tgt := 35) hx hb dX11_rests_12 (by decide) (fun c3 => ?_) (fun c3 => ?_)
    · have hf := (if_pos c3).symm.trans hf
      refine lv_iload_n hx hb dX11_rests_35 rfl (lv_at hl 1 rfl) ?_
      obtain rfl := so hf
      exact q_iret B hw hz hc0 hr hlk dX11_rests_36
    · have hf := (if_neg c3).symm.trans hf
      refine lv_aload_n hx hb dX11_rests_15 rfl (lv_at hl 0 rfl) ?_
      obtain ⟨a4, e, hf⟩ := ob hf
      refine q_getR e B hw fd_11_4.1 fd_11_4.2.1 fd_11_4.2.2.1 fd_11_4.2.2.2.1 fd_11_4.2.2.2.2 rfl tw_2_106 dX11_rests_16 ?_
      refine lv_iload_n hx hb dX11_rests_19 rfl (lv_at hl 2 rfl) ?_
      obtain ⟨x5, e, hf⟩ := ob hf
      refine q_callVN (As := [.int v2]) (rest := []) (st1 := [.int x5]) (c_X5_atRest G e) B hw hz hc0 (k_X5_atRest e) (by decide) (ci := 5) rfl rfl my_X5_atRest mv_X5_atRest tw_5_221 ⟨Nat.le_of_ble_eq_true rfl, Nat.le_of_ble_eq_true rfl⟩ ⟨Nat.zero_le _, Nat.zero_le _⟩ rfl hl.1 rfl rfl (Nat.le_of_ble_eq_true rfl) dX11_rests_20 (fun H locs hw => ?_)
      refine lv_if_eq (tgt := 29) hx hb dX11_rests_23 (by decide) (fun c6 => ?_) (fun c6 => ?_)
      · have hf := (if_pos c6).symm.trans hf
        exact w_X11_rests_29 G B hz hc0 hr hlk ih v0 v1 v2 _ _ _ hw (lv_sub hl [0, 1, 2] rfl) hf
      · have hf := (if_neg c6).symm.trans hf
        obtain ⟨x7, e, hf⟩ := ob hf
        refine lv_iinc (v := x7) (lv' := [(1, .int x7), (0, .ref v0), (2, .int v2)]) hx hb dX11_rests_26 hl (k := 1) rfl (Option.some.inj e) (by decide) rfl (fun ls hl => ?_)
        exact w_X11_rests_29 G B hz hc0 hr hlk ih v0 x7 v2 _ _ _ hw (lv_sub hl [1, 0, 2] rfl) hf
set_option maxHeartbeats 4000000 in
theorem c_X11_rests {l : Launch} {s0 : State} {E : Ev} (G : Gl s0 E) {n : Nat} {z : Sh} {h : Hp} {v0 : Nat} {r : Int32} (hf : f_X11_rests n z h v0 = some r) : Ct l s0 E yX11_rests cX11_rests 3 (some .int) 2 48 [.ref v0] z h h (some (.int r)) := by
  refine Ct.of G (by decide) (Nat.le_of_ble_eq_true rfl) ?_
  intro p e s m below meth c ls B hw hz hc0 hr hlk hl
  have B : Bd p s0 s E m c cX11_rests 3 RX11 := B
  have hx := B.1
  have hb := B.2.1
  have hl : lv_has ls 3 [(0, .ref v0)] := hl
  unfold f_X11_rests at hf
  obtain ⟨_, hf⟩ := if_some hf
  refine lv_iconst (v := 0) hx hb dX11_rests_0 (by decide) ?_
  refine lv_istore_n (lv' := [(1, .int 0), (0, .ref v0)]) hx hb dX11_rests_1 rfl hl (by decide) rfl (fun ls hl => ?_)
  refine lv_iconst (v := 0) hx hb dX11_rests_2 (by decide) ?_
  refine lv_istore_n (lv' := [(2, .int 0), (1, .int 0), (0, .ref v0)]) hx hb dX11_rests_3 rfl hl (by decide) rfl (fun ls hl => ?_)
  exact w_X11_rests_4 G B hz hc0 hr hlk  n v0 0 0 _ _ _ hw (lv_sub hl [2, 1, 0] rfl) hf
/-! SecondLife.rest(I)I -/
def f_X11_rest_45 (n : Nat) (z : Sh) (h : Hp) (k13 : Nat → Int32 → Int32 → Int32 → Option (Int32)) (v0 : Nat) (v1 : Int32) (v2 : Int32) (v3 : Int32) : Option (Int32) :=
  (some (v3 + 1)).bind fun x1 =>
  k13 v0 v1 v2 x1
def f_X11_rest_13 (n : Nat) (z : Sh) (h : Hp) : Nat → Nat → Int32 → Int32 → Int32 → Option (Int32)
  | 0, _, _, _, _ => none
  | i + 1, v0, v1, v2, v3 =>
    (gR z h 11 v0 4).bind fun a1 =>
    (f_X5_everybody z h a1).bind fun x2 =>
    if x2 < v3 then
      some ((-1) : Int32)
    else
      (gR z h 11 v0 4).bind fun a4 =>
      (f_X5_atRest n z h a4 v3).bind fun x5 =>
      if x5 = 0 then
        f_X11_rest_45 n z h (f_X11_rest_13 n z h i) v0 v1 v2 v3
      else
        if v2 = v1 then
          some v3
        else
          (some (v2 + 1)).bind fun x8 =>
          f_X11_rest_45 n z h (f_X11_rest_13 n z h i) v0 v1 x8 v3
def f_X11_rest (n : Nat) (z : Sh) (h : Hp) (v0 : Nat) (v1 : Int32) : Option (Int32) :=
  if z.K v0 = 11 then
    if 0 ≤ v1 then
      f_X11_rest_13 n z h n v0 v1 0 0
    else
      (f_X11_refused z h 3).bind fun x2 =>
      some x2
  else none
theorem k_X11_rest {n : Nat} {z : Sh} {h : Hp} {v0 : Nat} {v1 : Int32} {w : Int32} (hf : f_X11_rest n z h v0 v1 = some w) : z.K v0 = 11 := by
  unfold f_X11_rest at hf
  exact (if_some hf).1
set_option maxHeartbeats 4000000 in
theorem w_X11_rest_45 {p : Program} {l : Launch} {e : Env} {s : State} {m : MethodId} {args : Array Value} {below : List Frame} {meth : Method} {c : Code} {s0 : State} {E : Ev} {z : Sh} {h : Hp} {n : Nat} {k13 : Nat → Int32 → Int32 → Int32 → Option (Int32)} {r : Int32} (G : Gl s0 E) (B : Bd p s0 s E m c cX11_rest 4 RX11) (hz : s0.heap.size ≤ z.sz) (hc0 : s.heap.size + 0 = z.sz) (hr : meth.sig.returnType = (some .int)) (hlk : meth.locks = false) (hk13 : ∀ (v0 : Nat) (v1 : Int32) (v2 : Int32) (v3 : Int32) (H : Heap) (locs : List Loc) (ls : Array Slot), Pw s0 s E z h H locs → lv_has ls 4 [(0, .ref v0), (1, .int v1), (2, .int v2), (3, .int v3)] → k13 v0 v1 v2 v3 = some r → W p l e (rmO 2 48) s m args below meth c H locs 0 0 (Zt below s0 E z h (some (.int r)) args s 0 0) (F0 m 13 ls [])) : ∀ (v0 : Nat) (v1 : Int32) (v2 : Int32) (v3 : Int32) (H : Heap) (locs : List Loc) (ls : Array Slot), Pw s0 s E z h H locs → lv_has ls 4 [(0, .ref v0), (1, .int v1), (2, .int v2), (3, .int v3)] → f_X11_rest_45 n z h k13 v0 v1 v2 v3 = some r → W p l e (rmO 2 48) s m args below meth c H locs 0 0 (Zt below s0 E z h (some (.int r)) args s 0 0) (F0 m 45 ls []) := by
  have hx := B.1
  have hb := B.2.1
  intro v0 v1 v2 v3 H locs ls hw hl hf
  unfold f_X11_rest_45 at hf
  obtain ⟨x1, e, hf⟩ := ob hf
  refine lv_iinc (v := x1) (lv' := [(3, .int x1), (0, .ref v0), (1, .int v1), (2, .int v2)]) hx hb dX11_rest_45 hl (k := 3) rfl (Option.some.inj e) (by decide) rfl (fun ls hl => ?_)
  refine lv_goto (tgt := 13) hx hb dX11_rest_48 (by decide) ?_
  exact hk13 v0 v1 v2 x1 _ _ _ hw (lv_sub hl [1, 2, 3, 0] rfl) hf
set_option maxHeartbeats 4000000 in
theorem w_X11_rest_13 {p : Program} {l : Launch} {e : Env} {s : State} {m : MethodId} {args : Array Value} {below : List Frame} {meth : Method} {c : Code} {s0 : State} {E : Ev} {z : Sh} {h : Hp} {n : Nat} {r : Int32} (G : Gl s0 E) (B : Bd p s0 s E m c cX11_rest 4 RX11) (hz : s0.heap.size ≤ z.sz) (hc0 : s.heap.size + 0 = z.sz) (hr : meth.sig.returnType = (some .int)) (hlk : meth.locks = false) : ∀ (i : Nat), ∀ (v0 : Nat) (v1 : Int32) (v2 : Int32) (v3 : Int32) (H : Heap) (locs : List Loc) (ls : Array Slot), Pw s0 s E z h H locs → lv_has ls 4 [(0, .ref v0), (1, .int v1), (2, .int v2), (3, .int v3)] → f_X11_rest_13 n z h i v0 v1 v2 v3 = some r → W p l e (rmO 2 48) s m args below meth c H locs 0 0 (Zt below s0 E z h (some (.int r)) args s 0 0) (F0 m 13 ls []) := by
  have hx := B.1
  have hb := B.2.1
  intro i
  induction i with
  | zero =>
    intro v0 v1 v2 v3 H locs ls hw hl hf
    have hf := (f_X11_rest_13.eq_1 ..).symm.trans hf
    cases hf
  | succ i ih =>
    intro v0 v1 v2 v3 H locs ls hw hl hf
    have hf := (f_X11_rest_13.eq_2 ..).symm.trans hf
    refine lv_iload_n hx hb dX11_rest_13 rfl (lv_at hl 3 rfl) ?_
    refine lv_aload_n hx hb dX11_rest_14 rfl (lv_at hl 0 rfl) ?_
    obtain ⟨a1, e, hf⟩ := ob hf
    refine q_getR e B hw fd_11_4.1 fd_11_4.2.1 fd_11_4.2.2.1 fd_11_4.2.2.2.1 fd_11_4.2.2.2.2 rfl tw_2_106 dX11_rest_15 ?_
    obtain ⟨x2, e, hf⟩ := ob hf
    refine q_callVN (As := []) (rest := [.int v3]) (st1 := [.int x2, .int v3]) (c_X5_everybody G e) B hw hz hc0 (k_X5_everybody e) (by decide) (ci := 5) rfl rfl my_X5_everybody mv_X5_everybody tw_5_211 ⟨Nat.le_of_ble_eq_true rfl, Nat.le_of_ble_eq_true rfl⟩ ⟨Nat.zero_le _, Nat.zero_le _⟩ rfl hl.1 rfl rfl (Nat.le_of_ble_eq_true rfl) dX11_rest_18 (fun H locs hw => ?_)
    refine lv_icmp_gt (tgt := 51) hx hb dX11_rest_21 (by decide) (fun c3 => ?_) (fun c3 => ?_)
    · have hf := (if_pos c3).symm.trans hf
      refine lv_iconst (v := (-1)) hx hb dX11_rest_51 (by decide) ?_
      obtain rfl := so hf
      exact q_iret B hw hz hc0 hr hlk dX11_rest_52
    · have hf := (if_neg c3).symm.trans hf
      refine lv_aload_n hx hb dX11_rest_24 rfl (lv_at hl 0 rfl) ?_
      obtain ⟨a4, e, hf⟩ := ob hf
      refine q_getR e B hw fd_11_4.1 fd_11_4.2.1 fd_11_4.2.2.1 fd_11_4.2.2.2.1 fd_11_4.2.2.2.2 rfl tw_2_106 dX11_rest_25 ?_
      refine lv_iload_n hx hb dX11_rest_28 rfl (lv_at hl 3 rfl) ?_
      obtain ⟨x5, e, hf⟩ := ob hf
      refine q_callVN (As := [.int v3]) (rest := []) (st1 := [.int x5]) (c_X5_atRest G e) B hw hz hc0 (k_X5_atRest e) (by decide) (ci := 5) rfl rfl my_X5_atRest mv_X5_atRest tw_5_221 ⟨Nat.le_of_ble_eq_true rfl, Nat.le_of_ble_eq_true rfl⟩ ⟨Nat.zero_le _, Nat.zero_le _⟩ rfl hl.1 rfl rfl (Nat.le_of_ble_eq_true rfl) dX11_rest_29 (fun H locs hw => ?_)
      refine lv_if_eq (tgt := 45) hx hb dX11_rest_32 (by decide) (fun c6 => ?_) (fun c6 => ?_)
      · have hf := (if_pos c6).symm.trans hf
        exact w_X11_rest_45 G B hz hc0 hr hlk ih v0 v1 v2 v3 _ _ _ hw (lv_sub hl [0, 1, 2, 3] rfl) hf
      · have hf := (if_neg c6).symm.trans hf
        refine lv_iload_n hx hb dX11_rest_35 rfl (lv_at hl 2 rfl) ?_
        refine lv_iload_n hx hb dX11_rest_36 rfl (lv_at hl 1 rfl) ?_
        refine lv_icmp_ne (tgt := 42) hx hb dX11_rest_37 (by decide) (fun c7 => ?_) (fun c7 => ?_)
        · have hf := (if_neg c7).symm.trans hf
          obtain ⟨x8, e, hf⟩ := ob hf
          refine lv_iinc (v := x8) (lv' := [(2, .int x8), (0, .ref v0), (1, .int v1), (3, .int v3)]) hx hb dX11_rest_42 hl (k := 2) rfl (Option.some.inj e) (by decide) rfl (fun ls hl => ?_)
          exact w_X11_rest_45 G B hz hc0 hr hlk ih v0 v1 x8 v3 _ _ _ hw (lv_sub hl [1, 2, 0, 3] rfl) hf
        · have hf := (if_pos c7).symm.trans hf
          refine lv_iload_n hx hb dX11_rest_40 rfl (lv_at hl 3 rfl) ?_
          obtain rfl := so hf
          exact q_iret B hw hz hc0 hr hlk dX11_rest_41
set_option maxHeartbeats 4000000 in
theorem c_X11_rest {l : Launch} {s0 : State} {E : Ev} (G : Gl s0 E) {n : Nat} {z : Sh} {h : Hp} {v0 : Nat} {v1 : Int32} {r : Int32} (hf : f_X11_rest n z h v0 v1 = some r) : Ct l s0 E yX11_rest cX11_rest 4 (some .int) 2 48 [.ref v0, .int v1] z h h (some (.int r)) := by
  refine Ct.of G (by decide) (Nat.le_of_ble_eq_true rfl) ?_
  intro p e s m below meth c ls B hw hz hc0 hr hlk hl
  have B : Bd p s0 s E m c cX11_rest 4 RX11 := B
  have hx := B.1
  have hb := B.2.1
  have hl : lv_has ls 4 [(0, .ref v0), (1, .int v1)] := hl
  unfold f_X11_rest at hf
  obtain ⟨_, hf⟩ := if_some hf
  refine lv_iload_n hx hb dX11_rest_0 rfl (lv_at hl 1 rfl) ?_
  refine lv_if_ge (tgt := 9) hx hb dX11_rest_1 (by decide) (fun c1 => ?_) (fun c1 => ?_)
  · have hf := (if_pos c1).symm.trans hf
    refine lv_iconst (v := 0) hx hb dX11_rest_9 (by decide) ?_
    refine lv_istore_n (lv' := [(2, .int 0), (0, .ref v0), (1, .int v1)]) hx hb dX11_rest_10 rfl hl (by decide) rfl (fun ls hl => ?_)
    refine lv_iconst (v := 0) hx hb dX11_rest_11 (by decide) ?_
    refine lv_istore_n (lv' := [(3, .int 0), (2, .int 0), (0, .ref v0), (1, .int v1)]) hx hb dX11_rest_12 rfl hl (by decide) rfl (fun ls hl => ?_)
    exact w_X11_rest_13 G B hz hc0 hr hlk  n v0 v1 0 0 _ _ _ hw (lv_sub hl [2, 3, 1, 0] rfl) hf
  · have hf := (if_neg c1).symm.trans hf
    refine lv_iconst (v := 3) hx hb dX11_rest_4 (by decide) ?_
    obtain ⟨x2, e, hf⟩ := ob hf
    refine q_callS (As := [.int 3]) (rest := []) (st1 := [.int x2]) (c_X11_refused G e) B hw hz hc0 my_X11_refused mv_X11_refused tw_2_155 ⟨Nat.le_of_ble_eq_true rfl, Nat.le_of_ble_eq_true rfl⟩ ⟨Nat.zero_le _, Nat.zero_le _⟩ rfl hl.1 rfl rfl (Nat.le_of_ble_eq_true rfl) dX11_rest_5 (fun H locs hw => ?_)
    obtain rfl := so hf
    exact q_iret B hw hz hc0 hr hlk dX11_rest_8
/-! SecondLife.numbers(III)I -/
def f_X11_numbers_36 (n : Nat) (z : Sh) (h : Hp) : Option (Int32 × Hp) :=
  (f_X11_refused z h 3).bind fun x1 =>
  some (x1, h)
def f_X11_numbers_21 (n : Nat) (z : Sh) (h : Hp) : Option (Int32 × Hp) :=
  (f_X11_refused z h 2).bind fun x1 =>
  some (x1, h)
def f_X11_numbers (n : Nat) (z : Sh) (h : Hp) (v0 : Nat) (v1 : Int32) (v2 : Int32) (v3 : Int32) : Option (Int32 × Hp) :=
  if z.K v0 = 11 then
    (f_X11_trayAt z h v0 v1).bind fun o1 =>
    (match o1 with
    | none =>
      f_X11_numbers_21 n z h
    | some a2 =>
      if v2 < 0 then
        f_X11_numbers_21 n z h
      else
        if v2 ≤ 3 then
          if v3 < 0 then
            f_X11_numbers_36 n z h
          else
            if v3 ≤ 40 then
              (f_X9_make n z h a2 v2 v3).bind fun h7 =>
              some ((0 : Int32), h7)
            else
              f_X11_numbers_36 n z h
        else
          f_X11_numbers_21 n z h)
  else none
theorem k_X11_numbers {n : Nat} {z : Sh} {h : Hp} {v0 : Nat} {v1 : Int32} {v2 : Int32} {v3 : Int32} {w : Int32 × Hp} (hf : f_X11_numbers n z h v0 v1 v2 v3 = some w) : z.K v0 = 11 := by
  unfold f_X11_numbers at hf
  exact (if_some hf).1
set_option maxHeartbeats 4000000 in
theorem w_X11_numbers_36 {p : Program} {l : Launch} {e : Env} {s : State} {m : MethodId} {args : Array Value} {below : List Frame} {meth : Method} {c : Code} {s0 : State} {E : Ev} {z : Sh} {n : Nat} {r : Int32} {h' : Hp} (G : Gl s0 E) (B : Bd p s0 s E m c cX11_numbers 5 RX11) (hz : s0.heap.size ≤ z.sz) (hc0 : s.heap.size + 0 = z.sz) (hr : meth.sig.returnType = (some .int)) (hlk : meth.locks = false) : ∀ (h : Hp) (H : Heap) (locs : List Loc) (ls : Array Slot), Pw s0 s E z h H locs → lv_has ls 5 [] → f_X11_numbers_36 n z h = some (r, h') → W p l e (rmO 2 46) s m args below meth c H locs 0 0 (Zt below s0 E z h' (some (.int r)) args s 0 0) (F0 m 36 ls []) := by
  have hx := B.1
  have hb := B.2.1
  intro h H locs ls hw hl hf
  unfold f_X11_numbers_36 at hf
  refine lv_iconst (v := 3) hx hb dX11_numbers_36 (by decide) ?_
  obtain ⟨x1, e, hf⟩ := ob hf
  refine q_callS (As := [.int 3]) (rest := []) (st1 := [.int x1]) (c_X11_refused G e) B hw hz hc0 my_X11_refused mv_X11_refused tw_2_155 ⟨Nat.le_of_ble_eq_true rfl, Nat.le_of_ble_eq_true rfl⟩ ⟨Nat.zero_le _, Nat.zero_le _⟩ rfl hl.1 rfl rfl (Nat.le_of_ble_eq_true rfl) dX11_numbers_37 (fun H locs hw => ?_)
  obtain ⟨rfl, rfl⟩ := so2 hf
  exact q_iret B hw hz hc0 hr hlk dX11_numbers_40
set_option maxHeartbeats 4000000 in
theorem w_X11_numbers_21 {p : Program} {l : Launch} {e : Env} {s : State} {m : MethodId} {args : Array Value} {below : List Frame} {meth : Method} {c : Code} {s0 : State} {E : Ev} {z : Sh} {n : Nat} {r : Int32} {h' : Hp} (G : Gl s0 E) (B : Bd p s0 s E m c cX11_numbers 5 RX11) (hz : s0.heap.size ≤ z.sz) (hc0 : s.heap.size + 0 = z.sz) (hr : meth.sig.returnType = (some .int)) (hlk : meth.locks = false) : ∀ (h : Hp) (H : Heap) (locs : List Loc) (ls : Array Slot), Pw s0 s E z h H locs → lv_has ls 5 [] → f_X11_numbers_21 n z h = some (r, h') → W p l e (rmO 2 46) s m args below meth c H locs 0 0 (Zt below s0 E z h' (some (.int r)) args s 0 0) (F0 m 21 ls []) := by
  have hx := B.1
  have hb := B.2.1
  intro h H locs ls hw hl hf
  unfold f_X11_numbers_21 at hf
  refine lv_iconst (v := 2) hx hb dX11_numbers_21 (by decide) ?_
  obtain ⟨x1, e, hf⟩ := ob hf
  refine q_callS (As := [.int 2]) (rest := []) (st1 := [.int x1]) (c_X11_refused G e) B hw hz hc0 my_X11_refused mv_X11_refused tw_2_155 ⟨Nat.le_of_ble_eq_true rfl, Nat.le_of_ble_eq_true rfl⟩ ⟨Nat.zero_le _, Nat.zero_le _⟩ rfl hl.1 rfl rfl (Nat.le_of_ble_eq_true rfl) dX11_numbers_22 (fun H locs hw => ?_)
  obtain ⟨rfl, rfl⟩ := so2 hf
  exact q_iret B hw hz hc0 hr hlk dX11_numbers_25
set_option maxHeartbeats 4000000 in
theorem c_X11_numbers {l : Launch} {s0 : State} {E : Ev} (G : Gl s0 E) {n : Nat} {z : Sh} {h : Hp} {v0 : Nat} {v1 : Int32} {v2 : Int32} {v3 : Int32} {r : Int32} {h' : Hp} (hf : f_X11_numbers n z h v0 v1 v2 v3 = some (r, h')) : Ct l s0 E yX11_numbers cX11_numbers 5 (some .int) 2 46 [.ref v0, .int v1, .int v2, .int v3] z h h' (some (.int r)) := by
  refine Ct.of G (by decide) (Nat.le_of_ble_eq_true rfl) ?_
  intro p e s m below meth c ls B hw hz hc0 hr hlk hl
  have B : Bd p s0 s E m c cX11_numbers 5 RX11 := B
  have hx := B.1
  have hb := B.2.1
  have hl : lv_has ls 5 [(0, .ref v0), (1, .int v1), (2, .int v2), (3, .int v3)] := hl
  unfold f_X11_numbers at hf
  obtain ⟨_, hf⟩ := if_some hf
  refine lv_aload_n hx hb dX11_numbers_0 rfl (lv_at hl 0 rfl) ?_
  refine lv_iload_n hx hb dX11_numbers_1 rfl (lv_at hl 1 rfl) ?_
  obtain ⟨o1, e, hf⟩ := ob hf
  refine q_callV (As := [.int v1]) (rest := []) (st1 := [va_rf o1]) (c_X11_trayAt G e) B hw hz hc0 (k_X11_trayAt e) (by decide) (ci := 11) rfl rfl my_X11_trayAt mv_X11_trayAt tw_4_95 ⟨Nat.le_of_ble_eq_true rfl, Nat.le_of_ble_eq_true rfl⟩ ⟨Nat.zero_le _, Nat.zero_le _⟩ rfl hl.1 rfl rfl (Nat.le_of_ble_eq_true rfl) dX11_numbers_2 (fun H locs hw => ?_)
  rcases o1 with _ | a2
  · refine lv_astoreN (lv' := [(4, .null), (0, .ref v0), (1, .int v1), (2, .int v2), (3, .int v3)]) hx hb dX11_numbers_5 hl (by decide) rfl (fun ls hl => ?_)
    refine lv_aloadN hx hb dX11_numbers_7 (lv_at hl 0 rfl) ?_
    refine lv_ifnullN (tgt := 21) hx hb dX11_numbers_9 (by decide) ?_
    exact w_X11_numbers_21 G B hz hc0 hr hlk  h _ _ _ hw (lv_sub hl [] rfl) hf
  · refine lv_astore (lv' := [(4, .ref a2), (0, .ref v0), (1, .int v1), (2, .int v2), (3, .int v3)]) hx hb dX11_numbers_5 hl (by decide) rfl (fun ls hl => ?_)
    refine lv_aload hx hb dX11_numbers_7 (lv_at hl 0 rfl) ?_
    refine lv_ifnull hx hb dX11_numbers_9 ?_
    refine lv_iload_n hx hb dX11_numbers_12 rfl (lv_at hl 3 rfl) ?_
    refine lv_if_lt (tgt := 21) hx hb dX11_numbers_13 (by decide) (fun c3 => ?_) (fun c3 => ?_)
    · have hf := (if_pos c3).symm.trans hf
      exact w_X11_numbers_21 G B hz hc0 hr hlk  h _ _ _ hw (lv_sub hl [] rfl) hf
    · have hf := (if_neg c3).symm.trans hf
      refine lv_iload_n hx hb dX11_numbers_16 rfl (lv_at hl 3 rfl) ?_
      refine lv_iconst (v := 3) hx hb dX11_numbers_17 (by decide) ?_
      refine lv_icmp_le (tgt := 26) hx hb dX11_numbers_18 (by decide) (fun c4 => ?_) (fun c4 => ?_)
      · have hf := (if_pos c4).symm.trans hf
        refine lv_iload_n hx hb dX11_numbers_26 rfl (lv_at hl 4 rfl) ?_
        refine lv_if_lt (tgt := 36) hx hb dX11_numbers_27 (by decide) (fun c5 => ?_) (fun c5 => ?_)
        · have hf := (if_pos c5).symm.trans hf
          exact w_X11_numbers_36 G B hz hc0 hr hlk  h _ _ _ hw (lv_sub hl [] rfl) hf
        · have hf := (if_neg c5).symm.trans hf
          refine lv_iload_n hx hb dX11_numbers_30 rfl (lv_at hl 4 rfl) ?_
          refine lv_bipush (v := 40) hx hb dX11_numbers_31 (by decide) ?_
          refine lv_icmp_le (tgt := 41) hx hb dX11_numbers_33 (by decide) (fun c6 => ?_) (fun c6 => ?_)
          · have hf := (if_pos c6).symm.trans hf
            refine lv_aload hx hb dX11_numbers_41 (lv_at hl 0 rfl) ?_
            refine lv_iload_n hx hb dX11_numbers_43 rfl (lv_at hl 3 rfl) ?_
            refine lv_iload_n hx hb dX11_numbers_44 rfl (lv_at hl 4 rfl) ?_
            obtain ⟨h7, e, hf⟩ := ob hf
            refine q_callVN (As := [.int v2, .int v3]) (rest := []) (st1 := []) (c_X9_make G e) B hw hz hc0 (k_X9_make e) (by decide) (ci := 9) rfl rfl my_X9_make mv_X9_make tw_5_233 ⟨Nat.le_of_ble_eq_true rfl, Nat.le_of_ble_eq_true rfl⟩ ⟨Nat.zero_le _, Nat.zero_le _⟩ rfl hl.1 rfl rfl (Nat.le_of_ble_eq_true rfl) dX11_numbers_45 (fun H locs hw => ?_)
            refine lv_iconst (v := 0) hx hb dX11_numbers_48 (by decide) ?_
            obtain ⟨rfl, rfl⟩ := so2 hf
            exact q_iret B hw hz hc0 hr hlk dX11_numbers_49
          · have hf := (if_neg c6).symm.trans hf
            exact w_X11_numbers_36 G B hz hc0 hr hlk  h _ _ _ hw (lv_sub hl [] rfl) hf
      · have hf := (if_neg c4).symm.trans hf
        exact w_X11_numbers_21 G B hz hc0 hr hlk  h _ _ _ hw (lv_sub hl [] rfl) hf
/-! SecondLife.write(IIJ)J -/
def f_X11_write_46 (z : Sh) (h : Hp) : Option (Int64 × Hp) :=
  (f_X11_refused z h 7).bind fun x1 =>
  some ((Int32.toInt64 x1), h)
def f_X11_write (z : Sh) (h : Hp) (v0 : Nat) (v1 : Int32) (v2 : Int32) (v3 : Int64) : Option (Int64 × Hp) :=
  if z.K v0 = 11 then
    (f_X11_trayAt z h v0 v1).bind fun o1 =>
    (match o1 with
    | none =>
      (f_X11_refused z h 2).bind fun x3 =>
      some ((Int32.toInt64 x3), h)
    | some a2 =>
      (gI z h 9 a2 1).bind fun x4 =>
      if x4 = 0 then
        (f_X11_refused z h 6).bind fun x11 =>
        some ((Int32.toInt64 x11), h)
      else
        if v2 < 0 then
          f_X11_write_46 z h
        else
          (gI z h 9 a2 3).bind fun x7 =>
          if v2 < x7 then
            (f_X9_put z h a2 v2 v3).bind fun h9 =>
            (f_X9_number z h9 a2 v2).bind fun x10 =>
            some (x10, h9)
          else
            f_X11_write_46 z h)
  else none
theorem k_X11_write {z : Sh} {h : Hp} {v0 : Nat} {v1 : Int32} {v2 : Int32} {v3 : Int64} {w : Int64 × Hp} (hf : f_X11_write z h v0 v1 v2 v3 = some w) : z.K v0 = 11 := by
  unfold f_X11_write at hf
  exact (if_some hf).1
set_option maxHeartbeats 4000000 in
theorem w_X11_write_46 {p : Program} {l : Launch} {e : Env} {s : State} {m : MethodId} {args : Array Value} {below : List Frame} {meth : Method} {c : Code} {s0 : State} {E : Ev} {z : Sh} {r : Int64} {h' : Hp} (G : Gl s0 E) (B : Bd p s0 s E m c cX11_write 6 RX11) (hz : s0.heap.size ≤ z.sz) (hc0 : s.heap.size + 0 = z.sz) (hr : meth.sig.returnType = (some .long)) (hlk : meth.locks = false) : ∀ (h : Hp) (H : Heap) (locs : List Loc) (ls : Array Slot), Pw s0 s E z h H locs → lv_has ls 6 [] → f_X11_write_46 z h = some (r, h') → W p l e (rmO 2 45) s m args below meth c H locs 0 0 (Zt below s0 E z h' (some (.long r)) args s 0 0) (F0 m 46 ls []) := by
  have hx := B.1
  have hb := B.2.1
  intro h H locs ls hw hl hf
  unfold f_X11_write_46 at hf
  refine lv_bipush (v := 7) hx hb dX11_write_46 (by decide) ?_
  obtain ⟨x1, e, hf⟩ := ob hf
  refine q_callS (As := [.int 7]) (rest := []) (st1 := [.int x1]) (c_X11_refused G e) B hw hz hc0 my_X11_refused mv_X11_refused tw_2_155 ⟨Nat.le_of_ble_eq_true rfl, Nat.le_of_ble_eq_true rfl⟩ ⟨Nat.zero_le _, Nat.zero_le _⟩ rfl hl.1 rfl rfl (Nat.le_of_ble_eq_true rfl) dX11_write_48 (fun H locs hw => ?_)
  refine lv_i2l (v := (Int32.toInt64 x1)) hx hb dX11_write_51 rfl ?_
  obtain ⟨rfl, rfl⟩ := so2 hf
  exact q_lret B hw hz hc0 hr hlk dX11_write_52
set_option maxHeartbeats 4000000 in
theorem c_X11_write {l : Launch} {s0 : State} {E : Ev} (G : Gl s0 E) {z : Sh} {h : Hp} {v0 : Nat} {v1 : Int32} {v2 : Int32} {v3 : Int64} {r : Int64} {h' : Hp} (hf : f_X11_write z h v0 v1 v2 v3 = some (r, h')) : Ct l s0 E yX11_write cX11_write 6 (some .long) 2 45 [.ref v0, .int v1, .int v2, .long v3] z h h' (some (.long r)) := by
  refine Ct.of G (by decide) (Nat.le_of_ble_eq_true rfl) ?_
  intro p e s m below meth c ls B hw hz hc0 hr hlk hl
  have B : Bd p s0 s E m c cX11_write 6 RX11 := B
  have hx := B.1
  have hb := B.2.1
  have hl : lv_has ls 6 [(0, .ref v0), (1, .int v1), (2, .int v2), (3, .long v3)] := hl
  unfold f_X11_write at hf
  obtain ⟨_, hf⟩ := if_some hf
  refine lv_aload_n hx hb dX11_write_0 rfl (lv_at hl 0 rfl) ?_
  refine lv_iload_n hx hb dX11_write_1 rfl (lv_at hl 1 rfl) ?_
  obtain ⟨o1, e, hf⟩ := ob hf
  refine q_callV (As := [.int v1]) (rest := []) (st1 := [va_rf o1]) (c_X11_trayAt G e) B hw hz hc0 (k_X11_trayAt e) (by decide) (ci := 11) rfl rfl my_X11_trayAt mv_X11_trayAt tw_4_95 ⟨Nat.le_of_ble_eq_true rfl, Nat.le_of_ble_eq_true rfl⟩ ⟨Nat.zero_le _, Nat.zero_le _⟩ rfl hl.1 rfl rfl (Nat.le_of_ble_eq_true rfl) dX11_write_2 (fun H locs hw => ?_)
  rcases o1 with _ | a2
  · refine lv_astoreN (lv' := [(5, .null), (0, .ref v0), (1, .int v1), (2, .int v2), (3, .long v3)]) hx hb dX11_write_5 hl (by decide) rfl (fun ls hl => ?_)
    refine lv_aloadN hx hb dX11_write_7 (lv_at hl 0 rfl) ?_
    refine lv_ifnonnullN hx hb dX11_write_9 ?_
    refine lv_iconst (v := 2) hx hb dX11_write_12 (by decide) ?_
    obtain ⟨x3, e, hf⟩ := ob hf
    refine q_callS (As := [.int 2]) (rest := []) (st1 := [.int x3]) (c_X11_refused G e) B hw hz hc0 my_X11_refused mv_X11_refused tw_2_155 ⟨Nat.le_of_ble_eq_true rfl, Nat.le_of_ble_eq_true rfl⟩ ⟨Nat.zero_le _, Nat.zero_le _⟩ rfl hl.1 rfl rfl (Nat.le_of_ble_eq_true rfl) dX11_write_13 (fun H locs hw => ?_)
    refine lv_i2l (v := (Int32.toInt64 x3)) hx hb dX11_write_16 rfl ?_
    obtain ⟨rfl, rfl⟩ := so2 hf
    exact q_lret B hw hz hc0 hr hlk dX11_write_17
  · refine lv_astore (lv' := [(5, .ref a2), (0, .ref v0), (1, .int v1), (2, .int v2), (3, .long v3)]) hx hb dX11_write_5 hl (by decide) rfl (fun ls hl => ?_)
    refine lv_aload hx hb dX11_write_7 (lv_at hl 0 rfl) ?_
    refine lv_ifnonnull (tgt := 18) hx hb dX11_write_9 (by decide) ?_
    refine lv_aload hx hb dX11_write_18 (lv_at hl 0 rfl) ?_
    obtain ⟨x4, e, hf⟩ := ob hf
    refine q_getIN e B hw fd_9_1.1 fd_9_1.2.1 fd_9_1.2.2.1 fd_9_1.2.2.2.1 fd_9_1.2.2.2.2 rfl tw_2_87 dX11_write_20 ?_
    refine lv_if_ne (tgt := 33) hx hb dX11_write_23 (by decide) (fun c5 => ?_) (fun c5 => ?_)
    · have hf := (if_neg c5).symm.trans hf
      refine lv_iload_n hx hb dX11_write_33 rfl (lv_at hl 3 rfl) ?_
      refine lv_if_lt (tgt := 46) hx hb dX11_write_34 (by decide) (fun c6 => ?_) (fun c6 => ?_)
      · have hf := (if_pos c6).symm.trans hf
        exact w_X11_write_46 G B hz hc0 hr hlk  h _ _ _ hw (lv_sub hl [] rfl) hf
      · have hf := (if_neg c6).symm.trans hf
        refine lv_iload_n hx hb dX11_write_37 rfl (lv_at hl 3 rfl) ?_
        refine lv_aload hx hb dX11_write_38 (lv_at hl 0 rfl) ?_
        obtain ⟨x7, e, hf⟩ := ob hf
        refine q_getIN e B hw fd_9_3.1 fd_9_3.2.1 fd_9_3.2.2.1 fd_9_3.2.2.2.1 fd_9_3.2.2.2.2 rfl tw_2_92 dX11_write_40 ?_
        refine lv_icmp_lt (tgt := 53) hx hb dX11_write_43 (by decide) (fun c8 => ?_) (fun c8 => ?_)
        · have hf := (if_pos c8).symm.trans hf
          refine lv_aload hx hb dX11_write_53 (lv_at hl 0 rfl) ?_
          refine lv_iload_n hx hb dX11_write_55 rfl (lv_at hl 3 rfl) ?_
          refine lv_lload_n hx hb dX11_write_56 rfl (lv_at hl 4 rfl) ?_
          obtain ⟨h9, e, hf⟩ := ob hf
          refine q_callVN (As := [.int v2, .long v3]) (rest := []) (st1 := []) (c_X9_put G e) B hw hz hc0 (k_X9_put e) (by decide) (ci := 9) rfl rfl my_X9_put mv_X9_put tw_6_4 ⟨Nat.le_of_ble_eq_true rfl, Nat.le_of_ble_eq_true rfl⟩ ⟨Nat.zero_le _, Nat.zero_le _⟩ rfl hl.1 rfl rfl (Nat.le_of_ble_eq_true rfl) dX11_write_57 (fun H locs hw => ?_)
          refine lv_aload hx hb dX11_write_60 (lv_at hl 0 rfl) ?_
          refine lv_iload_n hx hb dX11_write_62 rfl (lv_at hl 3 rfl) ?_
          obtain ⟨x10, e, hf⟩ := ob hf
          refine q_callVN (As := [.int v2]) (rest := []) (st1 := [.long x10]) (c_X9_number G e) B hw hz hc0 (k_X9_number e) (by decide) (ci := 9) rfl rfl my_X9_number mv_X9_number tw_5_158 ⟨Nat.le_of_ble_eq_true rfl, Nat.le_of_ble_eq_true rfl⟩ ⟨Nat.zero_le _, Nat.zero_le _⟩ rfl hl.1 rfl rfl (Nat.le_of_ble_eq_true rfl) dX11_write_63 (fun H locs hw => ?_)
          obtain ⟨rfl, rfl⟩ := so2 hf
          exact q_lret B hw hz hc0 hr hlk dX11_write_66
        · have hf := (if_neg c8).symm.trans hf
          exact w_X11_write_46 G B hz hc0 hr hlk  h _ _ _ hw (lv_sub hl [] rfl) hf
    · have hf := (if_pos c5).symm.trans hf
      refine lv_bipush (v := 6) hx hb dX11_write_26 (by decide) ?_
      obtain ⟨x11, e, hf⟩ := ob hf
      refine q_callS (As := [.int 6]) (rest := []) (st1 := [.int x11]) (c_X11_refused G e) B hw hz hc0 my_X11_refused mv_X11_refused tw_2_155 ⟨Nat.le_of_ble_eq_true rfl, Nat.le_of_ble_eq_true rfl⟩ ⟨Nat.zero_le _, Nat.zero_le _⟩ rfl hl.1 rfl rfl (Nat.le_of_ble_eq_true rfl) dX11_write_28 (fun H locs hw => ?_)
      refine lv_i2l (v := (Int32.toInt64 x11)) hx hb dX11_write_31 rfl ?_
      obtain ⟨rfl, rfl⟩ := so2 hf
      exact q_lret B hw hz hc0 hr hlk dX11_write_32
