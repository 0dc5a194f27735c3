/-! SecondLife$Chances.layOutHopes()I -/
def f_X0_layOutHopes_59 (n : Nat) (z : Sh) (k4 : Hp → Nat → Int32 → Int32 → Option (Int32 × Hp)) (h : Hp) (v0 : Nat) (v1 : Int32) (v2 : Int32) : Option (Int32 × Hp) :=
  (some (v2 + 1)).bind fun x1 =>
  k4 h v0 v1 x1
def f_X0_layOutHopes_43 (n : Nat) (z : Sh) (k4 : Hp → Nat → Int32 → Int32 → Option (Int32 × Hp)) (h : Hp) (v0 : Nat) (v1 : Int32) (v2 : Int32) (u0 : Int32) : Option (Int32 × Hp) :=
  (f_X10_yearOf z h v2).bind fun x1 =>
  (some (v1 + (((u0 * 6) - x1) * 9))).bind fun x2 =>
  f_X0_layOutHopes_59 n z k4 h v0 x2 v2
def f_X0_layOutHopes_4 (n : Nat) (z : Sh) : Nat → Hp → Nat → Int32 → Int32 → Option (Int32 × Hp)
  | 0, _, _, _, _ => none
  | i + 1, h, v0, v1, v2 =>
    (gR z h 0 v0 3).bind fun a1 =>
    (aL z a1).bind fun x2 =>
    if x2 ≤ v2 then
      some (v1, h)
    else
      (gR z h 0 v0 3).bind fun a4 =>
      (stI z h a4 v2 v1).bind fun h5 =>
      (f_X10_streakOf z h5 v2).bind fun x6 =>
      (f_X10_yearOf z h5 v2).bind fun x7 =>
      if x7 < x6 then
        f_X0_layOutHopes_59 n z (f_X0_layOutHopes_4 n z i) h5 v0 v1 v2
      else
        (f_X10_lifeOf z h5 v2).bind fun x9 =>
        if x9 = 0 then
          f_X0_layOutHopes_43 n z (f_X0_layOutHopes_4 n z i) h5 v0 v1 v2 2
        else
          f_X0_layOutHopes_43 n z (f_X0_layOutHopes_4 n z i) h5 v0 v1 v2 1
def f_X0_layOutHopes (n : Nat) (z : Sh) (h : Hp) (v0 : Nat) : Option (Int32 × Hp) :=
  if z.K v0 = 0 then
    f_X0_layOutHopes_4 n z n h v0 0 0
  else none
theorem k_X0_layOutHopes {n : Nat} {z : Sh} {h : Hp} {v0 : Nat} {w : Int32 × Hp} (hf : f_X0_layOutHopes n z h v0 = some w) : z.K v0 = 0 := by
  unfold f_X0_layOutHopes at hf
  exact (if_some hf).1
set_option maxHeartbeats 4000000 in
theorem w_X0_layOutHopes_59 {p : Program} {l : Launch} {e : Env} {s : State} {m : MethodId} {args : Array Value} {below : List Frame} {meth : Method} {c : Code} {s0 : State} {E : Ev} {z : Sh} {n : Nat} {k4 : Hp → Nat → Int32 → Int32 → Option (Int32 × Hp)} {r : Int32} {h' : Hp} (G : Gl s0 E) (B : Bd p s0 s E m c cX0_layOutHopes 4 RX0) (hz : s0.heap.size ≤ z.sz) (hc0 : s.heap.size + 0 = z.sz) (hr : meth.sig.returnType = (some .int)) (hlk : meth.locks = false) (hk4 : ∀ (h : Hp) (v0 : Nat) (v1 : Int32) (v2 : Int32) (H : Heap) (locs : List Loc) (ls : Array Slot), Pw s0 s E z h H locs → lv_has ls 4 [(0, .ref v0), (1, .int v1), (2, .int v2)] → k4 h v0 v1 v2 = some (r, h') → W p l e (rmO 1 21) s m args below meth c H locs 0 0 (Zt below s0 E z h' (some (.int r)) args s 0 0) (F0 m 4 ls [])) : ∀ (h : Hp) (v0 : Nat) (v1 : Int32) (v2 : Int32) (H : Heap) (locs : List Loc) (ls : Array Slot), Pw s0 s E z h H locs → lv_has ls 4 [(0, .ref v0), (1, .int v1), (2, .int v2)] → f_X0_layOutHopes_59 n z k4 h v0 v1 v2 = some (r, h') → W p l e (rmO 1 21) s m args below meth c H locs 0 0 (Zt below s0 E z h' (some (.int r)) args s 0 0) (F0 m 59 ls []) := by
  have hx := B.1
  have hb := B.2.1
  intro h v0 v1 v2 H locs ls hw hl hf
  unfold f_X0_layOutHopes_59 at hf
  obtain ⟨x1, e, hf⟩ := ob hf
  refine lv_iinc (v := x1) (lv' := [(2, .int x1), (0, .ref v0), (1, .int v1)]) hx hb dX0_layOutHopes_59 hl (k := 2) rfl (Option.some.inj e) (by decide) rfl (fun ls hl => ?_)
  refine lv_goto (tgt := 4) hx hb dX0_layOutHopes_62 (by decide) ?_
  exact hk4 h v0 v1 x1 _ _ _ hw (lv_sub hl [1, 2, 0] rfl) hf
set_option maxHeartbeats 4000000 in
theorem w_X0_layOutHopes_43 {p : Program} {l : Launch} {e : Env} {s : State} {m : MethodId} {args : Array Value} {below : List Frame} {meth : Method} {c : Code} {s0 : State} {E : Ev} {z : Sh} {n : Nat} {k4 : Hp → Nat → Int32 → Int32 → Option (Int32 × Hp)} {r : Int32} {h' : Hp} (G : Gl s0 E) (B : Bd p s0 s E m c cX0_layOutHopes 4 RX0) (hz : s0.heap.size ≤ z.sz) (hc0 : s.heap.size + 0 = z.sz) (hr : meth.sig.returnType = (some .int)) (hlk : meth.locks = false) (hk4 : ∀ (h : Hp) (v0 : Nat) (v1 : Int32) (v2 : Int32) (H : Heap) (locs : List Loc) (ls : Array Slot), Pw s0 s E z h H locs → lv_has ls 4 [(0, .ref v0), (1, .int v1), (2, .int v2)] → k4 h v0 v1 v2 = some (r, h') → W p l e (rmO 1 21) s m args below meth c H locs 0 0 (Zt below s0 E z h' (some (.int r)) args s 0 0) (F0 m 4 ls [])) : ∀ (h : Hp) (v0 : Nat) (v1 : Int32) (v2 : Int32) (u0 : Int32) (H : Heap) (locs : List Loc) (ls : Array Slot), Pw s0 s E z h H locs → lv_has ls 4 [(0, .ref v0), (1, .int v1), (2, .int v2)] → f_X0_layOutHopes_43 n z k4 h v0 v1 v2 u0 = some (r, h') → W p l e (rmO 1 21) s m args below meth c H locs 0 0 (Zt below s0 E z h' (some (.int r)) args s 0 0) (F0 m 43 ls [.int u0]) := by
  have hx := B.1
  have hb := B.2.1
  intro h v0 v1 v2 u0 H locs ls hw hl hf
  unfold f_X0_layOutHopes_43 at hf
  refine lv_istore_n (lv' := [(3, .int u0), (0, .ref v0), (1, .int v1), (2, .int v2)]) hx hb dX0_layOutHopes_43 rfl hl (by decide) rfl (fun ls hl => ?_)
  refine lv_iload_n hx hb dX0_layOutHopes_44 rfl (lv_at hl 2 rfl) ?_
  refine lv_iload_n hx hb dX0_layOutHopes_45 rfl (lv_at hl 0 rfl) ?_
  refine lv_bipush (v := 6) hx hb dX0_layOutHopes_46 (by decide) ?_
  refine lv_imul hx hb dX0_layOutHopes_48 ?_
  refine lv_iload_n hx hb dX0_layOutHopes_49 rfl (lv_at hl 3 rfl) ?_
  obtain ⟨x1, e, hf⟩ := ob hf
  refine q_callSN (As := [.int v2]) (rest := [.int (u0 * 6), .int v1]) (st1 := [.int x1, .int (u0 * 6), .int v1]) (c_X10_yearOf G e) B hw hz hc0 my_X10_yearOf mv_X10_yearOf tw_5_57 ⟨Nat.le_of_ble_eq_true rfl, Nat.le_of_ble_eq_true rfl⟩ ⟨Nat.zero_le _, Nat.zero_le _⟩ rfl hl.1 rfl rfl (Nat.le_of_ble_eq_true rfl) dX0_layOutHopes_50 (fun H locs hw => ?_)
  refine lv_isub hx hb dX0_layOutHopes_53 ?_
  refine lv_bipush (v := 9) hx hb dX0_layOutHopes_54 (by decide) ?_
  refine lv_imul hx hb dX0_layOutHopes_56 ?_
  refine lv_iadd hx hb dX0_layOutHopes_57 ?_
  obtain ⟨x2, e, hf⟩ := ob hf
  refine q_nmI e ?_
  refine lv_istore_n (lv' := [(1, .int x2), (3, .int u0), (0, .ref v0), (2, .int v2)]) hx hb dX0_layOutHopes_58 rfl hl (by decide) rfl (fun ls hl => ?_)
  exact w_X0_layOutHopes_59 G B hz hc0 hr hlk hk4 h v0 x2 v2 _ _ _ hw (lv_sub hl [2, 0, 3] rfl) hf
set_option maxHeartbeats 4000000 in
theorem w_X0_layOutHopes_4 {p : Program} {l : Launch} {e : Env} {s : State} {m : MethodId} {args : Array Value} {below : List Frame} {meth : Method} {c : Code} {s0 : State} {E : Ev} {z : Sh} {n : Nat} {r : Int32} {h' : Hp} (G : Gl s0 E) (B : Bd p s0 s E m c cX0_layOutHopes 4 RX0) (hz : s0.heap.size ≤ z.sz) (hc0 : s.heap.size + 0 = z.sz) (hr : meth.sig.returnType = (some .int)) (hlk : meth.locks = false) : ∀ (i : Nat), ∀ (h : Hp) (v0 : Nat) (v1 : Int32) (v2 : Int32) (H : Heap) (locs : List Loc) (ls : Array Slot), Pw s0 s E z h H locs → lv_has ls 4 [(0, .ref v0), (1, .int v1), (2, .int v2)] → f_X0_layOutHopes_4 n z i h v0 v1 v2 = some (r, h') → W p l e (rmO 1 21) s m args below meth c H locs 0 0 (Zt below s0 E z h' (some (.int r)) args s 0 0) (F0 m 4 ls []) := by
  have hx := B.1
  have hb := B.2.1
  intro i
  induction i with
  | zero =>
    intro h v0 v1 v2 H locs ls hw hl hf
    have hf := (f_X0_layOutHopes_4.eq_1 ..).symm.trans hf
    cases hf
  | succ i ih =>
    intro h v0 v1 v2 H locs ls hw hl hf
    have hf := (f_X0_layOutHopes_4.eq_2 ..).symm.trans hf
    refine lv_iload_n hx hb dX0_layOutHopes_4 rfl (lv_at hl 2 rfl) ?_
    refine lv_aload_n hx hb dX0_layOutHopes_5 rfl (lv_at hl 0 rfl) ?_
    obtain ⟨a1, e, hf⟩ := ob hf
    refine q_getR e B hw fd_0_3.1 fd_0_3.2.1 fd_0_3.2.2.1 fd_0_3.2.2.2.1 fd_0_3.2.2.2.2 rfl tw_2_67 dX0_layOutHopes_6 ?_
    obtain ⟨x2, e, hf⟩ := ob hf
    refine q_len e B hw dX0_layOutHopes_9 ?_
    refine lv_icmp_ge (tgt := 65) hx hb dX0_layOutHopes_10 (by decide) (fun c3 => ?_) (fun c3 => ?_)
    · have hf := (if_pos c3).symm.trans hf
      refine lv_iload_n hx hb dX0_layOutHopes_65 rfl (lv_at hl 1 rfl) ?_
      obtain ⟨rfl, rfl⟩ := so2 hf
      exact q_iret B hw hz hc0 hr hlk dX0_layOutHopes_66
    · have hf := (if_neg c3).symm.trans hf
      refine lv_aload_n hx hb dX0_layOutHopes_13 rfl (lv_at hl 0 rfl) ?_
      obtain ⟨a4, e, hf⟩ := ob hf
      refine q_getR e B hw fd_0_3.1 fd_0_3.2.1 fd_0_3.2.2.1 fd_0_3.2.2.2.1 fd_0_3.2.2.2.2 rfl tw_2_67 dX0_layOutHopes_14 ?_
      refine lv_iload_n hx hb dX0_layOutHopes_17 rfl (lv_at hl 2 rfl) ?_
      refine lv_iload_n hx hb dX0_layOutHopes_18 rfl (lv_at hl 1 rfl) ?_
      obtain ⟨h5, e, hf⟩ := ob hf
      refine q_stI e B hw dX0_layOutHopes_19 (fun H locs hw => ?_)
      refine lv_iload_n hx hb dX0_layOutHopes_20 rfl (lv_at hl 2 rfl) ?_
      obtain ⟨x6, e, hf⟩ := ob hf
      refine q_callSN (As := [.int v2]) (rest := []) (st1 := [.int x6]) (c_X10_streakOf G e) B hw hz hc0 my_X10_streakOf mv_X10_streakOf tw_5_128 ⟨Nat.le_of_ble_eq_true rfl, Nat.le_of_ble_eq_true rfl⟩ ⟨Nat.zero_le _, Nat.zero_le _⟩ rfl hl.1 rfl rfl (Nat.le_of_ble_eq_true rfl) dX0_layOutHopes_21 (fun H locs hw => ?_)
      refine lv_iload_n hx hb dX0_layOutHopes_24 rfl (lv_at hl 2 rfl) ?_
      obtain ⟨x7, e, hf⟩ := ob hf
      refine q_callSN (As := [.int v2]) (rest := [.int x6]) (st1 := [.int x7, .int x6]) (c_X10_yearOf G e) B hw hz hc0 my_X10_yearOf mv_X10_yearOf tw_5_57 ⟨Nat.le_of_ble_eq_true rfl, Nat.le_of_ble_eq_true rfl⟩ ⟨Nat.zero_le _, Nat.zero_le _⟩ rfl hl.1 rfl rfl (Nat.le_of_ble_eq_true rfl) dX0_layOutHopes_25 (fun H locs hw => ?_)
      refine lv_icmp_gt (tgt := 59) hx hb dX0_layOutHopes_28 (by decide) (fun c8 => ?_) (fun c8 => ?_)
      · have hf := (if_pos c8).symm.trans hf
        exact w_X0_layOutHopes_59 G B hz hc0 hr hlk ih h5 v0 v1 v2 _ _ _ hw (lv_sub hl [0, 1, 2] rfl) hf
      · have hf := (if_neg c8).symm.trans hf
        refine lv_iload_n hx hb dX0_layOutHopes_31 rfl (lv_at hl 2 rfl) ?_
        obtain ⟨x9, e, hf⟩ := ob hf
        refine q_callSN (As := [.int v2]) (rest := []) (st1 := [.int x9]) (c_X10_lifeOf G e) B hw hz hc0 my_X10_lifeOf mv_X10_lifeOf tw_5_56 ⟨Nat.le_of_ble_eq_true rfl, Nat.le_of_ble_eq_true rfl⟩ ⟨Nat.zero_le _, Nat.zero_le _⟩ rfl hl.1 rfl rfl (Nat.le_of_ble_eq_true rfl) dX0_layOutHopes_32 (fun H locs hw => ?_)
        refine lv_if_ne (tgt := 42) hx hb dX0_layOutHopes_35 (by decide) (fun c10 => ?_) (fun c10 => ?_)
        · have hf := (if_neg c10).symm.trans hf
          refine lv_iconst (v := 1) hx hb dX0_layOutHopes_42 (by decide) ?_
          exact w_X0_layOutHopes_43 G B hz hc0 hr hlk ih h5 v0 v1 v2 1 _ _ _ hw (lv_sub hl [0, 1, 2] rfl) hf
        · have hf := (if_pos c10).symm.trans hf
          refine lv_iconst (v := 2) hx hb dX0_layOutHopes_38 (by decide) ?_
          refine lv_goto (tgt := 43) hx hb dX0_layOutHopes_39 (by decide) ?_
          exact w_X0_layOutHopes_43 G B hz hc0 hr hlk ih h5 v0 v1 v2 2 _ _ _ hw (lv_sub hl [0, 1, 2] rfl) hf
set_option maxHeartbeats 4000000 in
theorem c_X0_layOutHopes {l : Launch} {s0 : State} {E : Ev} (G : Gl s0 E) {n : Nat} {z : Sh} {h : Hp} {v0 : Nat} {r : Int32} {h' : Hp} (hf : f_X0_layOutHopes n z h v0 = some (r, h')) : Ct l s0 E yX0_layOutHopes cX0_layOutHopes 4 (some .int) 1 21 [.ref v0] z h h' (some (.int r)) := by
  refine Ct.of G (by decide) (Nat.le_of_ble_eq_true rfl) ?_
  intro p e s m below meth c ls B hw hz hc0 hr hlk hl
  have B : Bd p s0 s E m c cX0_layOutHopes 4 RX0 := B
  have hx := B.1
  have hb := B.2.1
  have hl : lv_has ls 4 [(0, .ref v0)] := hl
  unfold f_X0_layOutHopes at hf
  obtain ⟨_, hf⟩ := if_some hf
  refine lv_iconst (v := 0) hx hb dX0_layOutHopes_0 (by decide) ?_
  refine lv_istore_n (lv' := [(1, .int 0), (0, .ref v0)]) hx hb dX0_layOutHopes_1 rfl hl (by decide) rfl (fun ls hl => ?_)
  refine lv_iconst (v := 0) hx hb dX0_layOutHopes_2 (by decide) ?_
  refine lv_istore_n (lv' := [(2, .int 0), (1, .int 0), (0, .ref v0)]) hx hb dX0_layOutHopes_3 rfl hl (by decide) rfl (fun ls hl => ?_)
  exact w_X0_layOutHopes_4 G B hz hc0 hr hlk  n h v0 0 0 _ _ _ hw (lv_sub hl [2, 1, 0] rfl) hf
/-! SecondLife$Chances.tenthsAt(I)I -/
def f_X0_tenthsAt_12 (z : Sh) (h : Hp) (v0 : Nat) (v1 : Int32) (u0 : Int32) : Option (Int32) :=
  (gR z h 0 v0 0).bind fun a1 =>
  (gR z h 10 a1 3).bind fun a2 =>
  (gI z h 8 a2 0).bind fun x3 =>
  (f_X10_yearOf z h v1).bind fun x4 =>
  some ((u0 * x3) - x4)
def f_X0_tenthsAt (z : Sh) (h : Hp) (v0 : Nat) (v1 : Int32) : Option (Int32) :=
  if z.K v0 = 0 then
    (f_X10_lifeOf z h v1).bind fun x1 =>
    if x1 = 0 then
      f_X0_tenthsAt_12 z h v0 v1 2
    else
      f_X0_tenthsAt_12 z h v0 v1 1
  else none
theorem k_X0_tenthsAt {z : Sh} {h : Hp} {v0 : Nat} {v1 : Int32} {w : Int32} (hf : f_X0_tenthsAt z h v0 v1 = some w) : z.K v0 = 0 := by
  unfold f_X0_tenthsAt at hf
  exact (if_some hf).1
set_option maxHeartbeats 4000000 in
theorem w_X0_tenthsAt_12 {p : Program} {l : Launch} {e : Env} {s : State} {m : MethodId} {args : Array Value} {below : List Frame} {meth : Method} {c : Code} {s0 : State} {E : Ev} {z : Sh} {h : Hp} {r : Int32} (G : Gl s0 E) (B : Bd p s0 s E m c cX0_tenthsAt 3 RX0) (hz : s0.heap.size ≤ z.sz) (hc0 : s.heap.size + 0 = z.sz) (hr : meth.sig.returnType = (some .int)) (hlk : meth.locks = false) : ∀ (v0 : Nat) (v1 : Int32) (u0 : Int32) (H : Heap) (locs : List Loc) (ls : Array Slot), Pw s0 s E z h H locs → lv_has ls 3 [(0, .ref v0), (1, .int v1)] → f_X0_tenthsAt_12 z h v0 v1 u0 = some r → W p l e (rmO 1 20) s m args below meth c H locs 0 0 (Zt below s0 E z h (some (.int r)) args s 0 0) (F0 m 12 ls [.int u0]) := by
  have hx := B.1
  have hb := B.2.1
  intro v0 v1 u0 H locs ls hw hl hf
  unfold f_X0_tenthsAt_12 at hf
  refine lv_istore_n (lv' := [(2, .int u0), (0, .ref v0), (1, .int v1)]) hx hb dX0_tenthsAt_12 rfl hl (by decide) rfl (fun ls hl => ?_)
  refine lv_iload_n hx hb dX0_tenthsAt_13 rfl (lv_at hl 0 rfl) ?_
  refine lv_aload_n hx hb dX0_tenthsAt_14 rfl (lv_at hl 1 rfl) ?_
  obtain ⟨a1, e, hf⟩ := ob hf
  refine q_getR e B hw fd_0_0.1 fd_0_0.2.1 fd_0_0.2.2.1 fd_0_0.2.2.2.1 fd_0_0.2.2.2.2 rfl tw_2_64 dX0_tenthsAt_15 ?_
  obtain ⟨a2, e, hf⟩ := ob hf
  refine q_getRN e B hw fd_10_3.1 fd_10_3.2.1 fd_10_3.2.2.1 fd_10_3.2.2.2.1 fd_10_3.2.2.2.2 rfl tw_1_231 dX0_tenthsAt_18 ?_
  obtain ⟨x3, e, hf⟩ := ob hf
  refine q_getIN e B hw fd_8_0.1 fd_8_0.2.1 fd_8_0.2.2.1 fd_8_0.2.2.2.1 fd_8_0.2.2.2.2 rfl tw_1_51 dX0_tenthsAt_21 ?_
  refine lv_imul hx hb dX0_tenthsAt_24 ?_
  refine lv_iload_n hx hb dX0_tenthsAt_25 rfl (lv_at hl 2 rfl) ?_
  obtain ⟨x4, e, hf⟩ := ob hf
  refine q_callSN (As := [.int v1]) (rest := [.int (u0 * x3)]) (st1 := [.int x4, .int (u0 * x3)]) (c_X10_yearOf G e) B hw hz hc0 my_X10_yearOf mv_X10_yearOf tw_5_57 ⟨Nat.le_of_ble_eq_true rfl, Nat.le_of_ble_eq_true rfl⟩ ⟨Nat.zero_le _, Nat.zero_le _⟩ rfl hl.1 rfl rfl (Nat.le_of_ble_eq_true rfl) dX0_tenthsAt_26 (fun H locs hw => ?_)
  refine lv_isub hx hb dX0_tenthsAt_29 ?_
  obtain rfl := so hf
  exact q_iret B hw hz hc0 hr hlk dX0_tenthsAt_30
set_option maxHeartbeats 4000000 in
theorem c_X0_tenthsAt {l : Launch} {s0 : State} {E : Ev} (G : Gl s0 E) {z : Sh} {h : Hp} {v0 : Nat} {v1 : Int32} {r : Int32} (hf : f_X0_tenthsAt z h v0 v1 = some r) : Ct l s0 E yX0_tenthsAt cX0_tenthsAt 3 (some .int) 1 20 [.ref v0, .int v1] z h h (some (.int r)) := by
  refine Ct.of G (by decide) (Nat.le_of_ble_eq_true rfl) ?_
  intro p e s m below meth c ls B hw hz hc0 hr hlk hl
  have B : Bd p s0 s E m c cX0_tenthsAt 3 RX0 := B
  have hx := B.1
  have hb := B.2.1
  have hl : lv_has ls 3 [(0, .ref v0), (1, .int v1)] := hl
  unfold f_X0_tenthsAt at hf
  obtain ⟨_, hf⟩ := if_some hf
  refine lv_iload_n hx hb dX0_tenthsAt_0 rfl (lv_at hl 1 rfl) ?_
  obtain ⟨x1, e, hf⟩ := ob hf
  refine q_callSN (As := [.int v1]) (rest := []) (st1 := [.int x1]) (c_X10_lifeOf G e) B hw hz hc0 my_X10_lifeOf mv_X10_lifeOf tw_5_56 ⟨Nat.le_of_ble_eq_true rfl, Nat.le_of_ble_eq_true rfl⟩ ⟨Nat.zero_le _, Nat.zero_le _⟩ rfl hl.1 rfl rfl (Nat.le_of_ble_eq_true rfl) dX0_tenthsAt_1 (fun H locs hw => ?_)
  refine lv_if_ne (tgt := 11) hx hb dX0_tenthsAt_4 (by decide) (fun c2 => ?_) (fun c2 => ?_)
  · have hf := (if_neg c2).symm.trans hf
    refine lv_iconst (v := 1) hx hb dX0_tenthsAt_11 (by decide) ?_
    exact w_X0_tenthsAt_12 G B hz hc0 hr hlk  v0 v1 1 _ _ _ hw (lv_sub hl [0, 1] rfl) hf
  · have hf := (if_pos c2).symm.trans hf
    refine lv_iconst (v := 2) hx hb dX0_tenthsAt_7 (by decide) ?_
    refine lv_goto (tgt := 12) hx hb dX0_tenthsAt_8 (by decide) ?_
    exact w_X0_tenthsAt_12 G B hz hc0 hr hlk  v0 v1 2 _ _ _ hw (lv_sub hl [0, 1] rfl) hf
/-! SecondLife$Chances.fraction(JI)J -/
def f_X0_fraction (n : Nat) (z : Sh) (h : Hp) (v0 : Nat) (v1 : Int64) (v3 : Int32) : Option (Int64) :=
  if z.K v0 = 0 then
    (gR z h 0 v0 0).bind fun a1 =>
    (gI z h 10 a1 8).bind fun x2 =>
    (f_X0_tenthsAt z h v0 x2).bind fun x3 =>
    (f_X0_tens z h x3).bind fun x4 =>
    (f_X0_commonDivisor n z h v1 x4).bind fun x5 =>
    if (lg_cmp x5 0) = 0 then
      some (0 : Int64)
    else
      if v3 = 0 then
        (dvJ v1 x5).bind fun x9 =>
        some x9
      else
        (dvJ x4 x5).bind fun x8 =>
        some x8
  else none
theorem k_X0_fraction {n : Nat} {z : Sh} {h : Hp} {v0 : Nat} {v1 : Int64} {v3 : Int32} {w : Int64} (hf : f_X0_fraction n z h v0 v1 v3 = some w) : z.K v0 = 0 := by
  unfold f_X0_fraction at hf
  exact (if_some hf).1
set_option maxHeartbeats 4000000 in
theorem c_X0_fraction {l : Launch} {s0 : State} {E : Ev} (G : Gl s0 E) {n : Nat} {z : Sh} {h : Hp} {v0 : Nat} {v1 : Int64} {v3 : Int32} {r : Int64} (hf : f_X0_fraction n z h v0 v1 v3 = some r) : Ct l s0 E yX0_fraction cX0_fraction 8 (some .long) 2 42 [.ref v0, .long v1, .int v3] z h h (some (.long r)) := by
  refine Ct.of G (by decide) (Nat.le_of_ble_eq_true rfl) ?_
  intro p e s m below meth c ls B hw hz hc0 hr hlk hl
  have B : Bd p s0 s E m c cX0_fraction 8 RX0 := B
  have hx := B.1
  have hb := B.2.1
  have hl : lv_has ls 8 [(0, .ref v0), (1, .long v1), (3, .int v3)] := hl
  unfold f_X0_fraction at hf
  obtain ⟨_, hf⟩ := if_some hf
  refine lv_aload_n hx hb dX0_fraction_0 rfl (lv_at hl 0 rfl) ?_
  refine lv_aload_n hx hb dX0_fraction_1 rfl (lv_at hl 0 rfl) ?_
  obtain ⟨a1, e, hf⟩ := ob hf
  refine q_getR e B hw fd_0_0.1 fd_0_0.2.1 fd_0_0.2.2.1 fd_0_0.2.2.2.1 fd_0_0.2.2.2.2 rfl tw_2_64 dX0_fraction_2 ?_
  obtain ⟨x2, e, hf⟩ := ob hf
  refine q_getIN e B hw fd_10_8.1 fd_10_8.2.1 fd_10_8.2.2.1 fd_10_8.2.2.2.1 fd_10_8.2.2.2.2 rfl tw_2_1 dX0_fraction_5 ?_
  obtain ⟨x3, e, hf⟩ := ob hf
  refine q_callV (As := [.int x2]) (rest := []) (st1 := [.int x3]) (c_X0_tenthsAt G e) B hw hz hc0 (k_X0_tenthsAt e) (by decide) (ci := 0) rfl rfl my_X0_tenthsAt mv_X0_tenthsAt tw_5_52 ⟨Nat.le_of_ble_eq_true rfl, Nat.le_of_ble_eq_true rfl⟩ ⟨Nat.zero_le _, Nat.zero_le _⟩ rfl hl.1 rfl rfl (Nat.le_of_ble_eq_true rfl) dX0_fraction_8 (fun H locs hw => ?_)
  obtain ⟨x4, e, hf⟩ := ob hf
  refine q_callS (As := [.int x3]) (rest := []) (st1 := [.long x4]) (c_X0_tens G e) B hw hz hc0 my_X0_tens mv_X0_tens tw_5_64 ⟨Nat.le_of_ble_eq_true rfl, Nat.le_of_ble_eq_true rfl⟩ ⟨Nat.zero_le _, Nat.zero_le _⟩ rfl hl.1 rfl rfl (Nat.le_of_ble_eq_true rfl) dX0_fraction_11 (fun H locs hw => ?_)
  refine lv_lstore (lv' := [(4, .long x4), (0, .ref v0), (1, .long v1), (3, .int v3)]) hx hb dX0_fraction_14 hl (by decide) rfl (fun ls hl => ?_)
  refine lv_lload_n hx hb dX0_fraction_16 rfl (lv_at hl 2 rfl) ?_
  refine lv_lload hx hb dX0_fraction_17 (lv_at hl 0 rfl) ?_
  obtain ⟨x5, e, hf⟩ := ob hf
  refine q_callS (As := [.long v1, .long x4]) (rest := []) (st1 := [.long x5]) (c_X0_commonDivisor G e) B hw hz hc0 my_X0_commonDivisor mv_X0_commonDivisor tw_5_84 ⟨Nat.le_of_ble_eq_true rfl, Nat.le_of_ble_eq_true rfl⟩ ⟨Nat.zero_le _, Nat.zero_le _⟩ rfl hl.1 rfl rfl (Nat.le_of_ble_eq_true rfl) dX0_fraction_19 (fun H locs hw => ?_)
  refine lv_lstore (lv' := [(6, .long x5), (4, .long x4), (0, .ref v0), (1, .long v1), (3, .int v3)]) hx hb dX0_fraction_22 hl (by decide) rfl (fun ls hl => ?_)
  refine lv_lload hx hb dX0_fraction_24 (lv_at hl 0 rfl) ?_
  refine lv_lconst (v := 0) hx hb dX0_fraction_26 (by decide) ?_
  refine W.lcmp hx hb dX0_fraction_27 ?_
  refine lv_if_ne (tgt := 33) hx hb dX0_fraction_28 (by decide) (fun c6 => ?_) (fun c6 => ?_)
  · have hf := (if_neg c6).symm.trans hf
    refine lv_iload_n hx hb dX0_fraction_33 rfl (lv_at hl 4 rfl) ?_
    refine lv_if_ne (tgt := 41) hx hb dX0_fraction_34 (by decide) (fun c7 => ?_) (fun c7 => ?_)
    · have hf := (if_neg c7).symm.trans hf
      refine lv_lload hx hb dX0_fraction_41 (lv_at hl 1 rfl) ?_
      refine lv_lload hx hb dX0_fraction_43 (lv_at hl 0 rfl) ?_
      obtain ⟨x8, e, hf⟩ := ob hf
      refine q_ldiv e hx hb dX0_fraction_45 ?_
      obtain rfl := so hf
      exact q_lret B hw hz hc0 hr hlk dX0_fraction_46
    · have hf := (if_pos c7).symm.trans hf
      refine lv_lload_n hx hb dX0_fraction_37 rfl (lv_at hl 3 rfl) ?_
      refine lv_goto (tgt := 43) hx hb dX0_fraction_38 (by decide) ?_
      refine lv_lload hx hb dX0_fraction_43 (lv_at hl 0 rfl) ?_
      obtain ⟨x9, e, hf⟩ := ob hf
      refine q_ldiv e hx hb dX0_fraction_45 ?_
      obtain rfl := so hf
      exact q_lret B hw hz hc0 hr hlk dX0_fraction_46
  · have hf := (if_pos c6).symm.trans hf
    refine lv_lconst (v := 0) hx hb dX0_fraction_31 (by decide) ?_
    obtain rfl := so hf
    exact q_lret B hw hz hc0 hr hlk dX0_fraction_32
/-! SecondLife$Courses.knownMost(I)I -/
def f_X1_knownMost (z : Sh) (h : Hp) (v0 : Nat) (v1 : Int32) : Option (Int32) :=
  if z.K v0 = 1 then
    (gR z h 1 v0 1).bind fun a1 =>
    (gR z h 1 v0 0).bind fun a2 =>
    (gI z h 10 a2 7).bind fun x3 =>
    (f_X3_find z h a1 v1 x3).bind fun x4 =>
    if (lg_cmp x4 (-1)) = 0 then
      some (117 : Int32)
    else
      (f_X1_scoreIn z h x4).bind fun x6 =>
      (dvI ((x6 + 16) - 1) 16).bind fun x7 =>
      some x7
  else none
theorem k_X1_knownMost {z : Sh} {h : Hp} {v0 : Nat} {v1 : Int32} {w : Int32} (hf : f_X1_knownMost z h v0 v1 = some w) : z.K v0 = 1 := by
  unfold f_X1_knownMost at hf
  exact (if_some hf).1
set_option maxHeartbeats 4000000 in
theorem c_X1_knownMost {l : Launch} {s0 : State} {E : Ev} (G : Gl s0 E) {z : Sh} {h : Hp} {v0 : Nat} {v1 : Int32} {r : Int32} (hf : f_X1_knownMost z h v0 v1 = some r) : Ct l s0 E yX1_knownMost cX1_knownMost 4 (some .int) 1 24 [.ref v0, .int v1] z h h (some (.int r)) := by
  refine Ct.of G (by decide) (Nat.le_of_ble_eq_true rfl) ?_
  intro p e s m below meth c ls B hw hz hc0 hr hlk hl
  have B : Bd p s0 s E m c cX1_knownMost 4 RX1 := B
  have hx := B.1
  have hb := B.2.1
  have hl : lv_has ls 4 [(0, .ref v0), (1, .int v1)] := hl
  unfold f_X1_knownMost at hf
  obtain ⟨_, hf⟩ := if_some hf
  refine lv_aload_n hx hb dX1_knownMost_0 rfl (lv_at hl 0 rfl) ?_
  obtain ⟨a1, e, hf⟩ := ob hf
  refine q_getR e B hw fd_1_1.1 fd_1_1.2.1 fd_1_1.2.2.1 fd_1_1.2.2.2.1 fd_1_1.2.2.2.2 rfl tw_2_44 dX1_knownMost_1 ?_
  refine lv_iload_n hx hb dX1_knownMost_4 rfl (lv_at hl 1 rfl) ?_
  refine lv_aload_n hx hb dX1_knownMost_5 rfl (lv_at hl 0 rfl) ?_
  obtain ⟨a2, e, hf⟩ := ob hf
  refine q_getR e B hw fd_1_0.1 fd_1_0.2.1 fd_1_0.2.2.1 fd_1_0.2.2.2.1 fd_1_0.2.2.2.2 rfl tw_2_43 dX1_knownMost_6 ?_
  obtain ⟨x3, e, hf⟩ := ob hf
  refine q_getIN e B hw fd_10_7.1 fd_10_7.2.1 fd_10_7.2.2.1 fd_10_7.2.2.2.1 fd_10_7.2.2.2.2 rfl tw_1_238 dX1_knownMost_9 ?_
  obtain ⟨x4, e, hf⟩ := ob hf
  refine q_callVN (As := [.int v1, .int x3]) (rest := []) (st1 := [.long x4]) (c_X3_find G e) B hw hz hc0 (k_X3_find e) (by decide) (ci := 3) rfl rfl my_X3_find mv_X3_find tw_4_170 ⟨Nat.le_of_ble_eq_true rfl, Nat.le_of_ble_eq_true rfl⟩ ⟨Nat.zero_le _, Nat.zero_le _⟩ rfl hl.1 rfl rfl (Nat.le_of_ble_eq_true rfl) dX1_knownMost_12 (fun H locs hw => ?_)
  refine lv_lstore_n (lv' := [(2, .long x4), (0, .ref v0), (1, .int v1)]) hx hb dX1_knownMost_15 rfl hl (by decide) rfl (fun ls hl => ?_)
  refine lv_lload_n hx hb dX1_knownMost_16 rfl (lv_at hl 0 rfl) ?_
  refine lv_ldc2 hx hb B.2.2.2.1 (B.w tw_4_177 rfl) dX1_knownMost_17 ?_
  refine W.lcmp hx hb dX1_knownMost_20 ?_
  refine lv_if_ne (tgt := 29) hx hb dX1_knownMost_21 (by decide) (fun c5 => ?_) (fun c5 => ?_)
  · have hf := (if_neg c5).symm.trans hf
    refine lv_lload_n hx hb dX1_knownMost_29 rfl (lv_at hl 0 rfl) ?_
    obtain ⟨x6, e, hf⟩ := ob hf
    refine q_callS (As := [.long x4]) (rest := []) (st1 := [.int x6]) (c_X1_scoreIn G e) B hw hz hc0 my_X1_scoreIn mv_X1_scoreIn tw_4_196 ⟨Nat.le_of_ble_eq_true rfl, Nat.le_of_ble_eq_true rfl⟩ ⟨Nat.zero_le _, Nat.zero_le _⟩ rfl hl.1 rfl rfl (Nat.le_of_ble_eq_true rfl) dX1_knownMost_30 (fun H locs hw => ?_)
    refine lv_bipush (v := 16) hx hb dX1_knownMost_33 (by decide) ?_
    refine lv_iadd hx hb dX1_knownMost_35 ?_
    refine lv_iconst (v := 1) hx hb dX1_knownMost_36 (by decide) ?_
    refine lv_isub hx hb dX1_knownMost_37 ?_
    refine lv_bipush (v := 16) hx hb dX1_knownMost_38 (by decide) ?_
    obtain ⟨x7, e, hf⟩ := ob hf
    refine q_idiv e hx hb dX1_knownMost_40 ?_
    obtain rfl := so hf
    exact q_iret B hw hz hc0 hr hlk dX1_knownMost_41
  · have hf := (if_pos c5).symm.trans hf
    refine lv_bipush (v := 117) hx hb dX1_knownMost_24 (by decide) ?_
    refine lv_goto (tgt := 41) hx hb dX1_knownMost_26 (by decide) ?_
    obtain rfl := so hf
    exact q_iret B hw hz hc0 hr hlk dX1_knownMost_41
/-! SecondLife$Courses.howMany()J -/
def f_X1_howMany_58 (n : Nat) (z : Sh) (h : Hp) : Nat → Nat → Int32 → Int32 → Int64 → Int32 → Option (Int64)
  | 0, _, _, _, _, _ => none
  | i + 1, v0, v1, v2, v3, v5 =>
    if v5 < v1 then
      some v3
    else
      (gR z h 1 v0 0).bind fun a2 =>
      (gR z h 10 a2 3).bind fun a3 =>
      (gI z h 8 a3 1).bind fun x4 =>
      (gR z h 1 v0 0).bind fun a5 =>
      (f_X10_grownAt z h a5 v5).bind fun x6 =>
      (f_X1_choicesIn n z h v0 (v2 - x6)).bind fun x7 =>
      (some ((v3 * (Int32.toInt64 x4)) + x7)).bind fun x8 =>
      (some (v5 + (-1))).bind fun x9 =>
      (f_X1_howMany_58 n z h i) v0 v1 v2 x8 x9
def f_X1_howMany_45 (n : Nat) (z : Sh) (h : Hp) (v0 : Nat) (v1 : Int32) (v2 : Int32) : Option (Int64) :=
  (f_X1_choicesIn n z h v0 (v2 - v1)).bind fun x1 =>
  some x1
def f_X1_howMany (n : Nat) (z : Sh) (h : Hp) (v0 : Nat) : Option (Int64) :=
  if z.K v0 = 1 then
    (gR z h 1 v0 0).bind fun a1 =>
    (gI z h 10 a1 8).bind fun x2 =>
    (f_X10_yearOf z h x2).bind fun x3 =>
    (gR z h 1 v0 0).bind fun a4 =>
    (gR z h 10 a4 3).bind fun a5 =>
    (gI z h 8 a5 0).bind fun x6 =>
    (gR z h 1 v0 0).bind fun a7 =>
    (gI z h 10 a7 8).bind fun x8 =>
    (f_X10_lifeOf z h x8).bind fun x9 =>
    if x9 = 0 then
      (gR z h 1 v0 0).bind fun a11 =>
      (gI z h 10 a11 6).bind fun x12 =>
      if x12 = 0 then
        f_X1_howMany_45 n z h v0 x3 x6
      else
        f_X1_howMany_58 n z h n v0 x3 x6 0 x6
    else
      f_X1_howMany_45 n z h v0 x3 x6
  else none
theorem k_X1_howMany {n : Nat} {z : Sh} {h : Hp} {v0 : Nat} {w : Int64} (hf : f_X1_howMany n z h v0 = some w) : z.K v0 = 1 := by
  unfold f_X1_howMany at hf
  exact (if_some hf).1
set_option maxHeartbeats 4000000 in
theorem w_X1_howMany_58 {p : Program} {l : Launch} {e : Env} {s : State} {m : MethodId} {args : Array Value} {below : List Frame} {meth : Method} {c : Code} {s0 : State} {E : Ev} {z : Sh} {h : Hp} {n : Nat} {r : Int64} (G : Gl s0 E) (B : Bd p s0 s E m c cX1_howMany 6 RX1) (hz : s0.heap.size ≤ z.sz) (hc0 : s.heap.size + 0 = z.sz) (hr : meth.sig.returnType = (some .long)) (hlk : meth.locks = false) : ∀ (i : Nat), ∀ (v0 : Nat) (v1 : Int32) (v2 : Int32) (v3 : Int64) (v5 : Int32) (H : Heap) (locs : List Loc) (ls : Array Slot), Pw s0 s E z h H locs → lv_has ls 6 [(0, .ref v0), (1, .int v1), (2, .int v2), (3, .long v3), (5, .int v5)] → f_X1_howMany_58 n z h i v0 v1 v2 v3 v5 = some r → W p l e (rmO 1 24) s m args below meth c H locs 0 0 (Zt below s0 E z h (some (.long r)) args s 0 0) (F0 m 58 ls []) := by
  have hx := B.1
  have hb := B.2.1
  intro i
  induction i with
  | zero =>
    intro v0 v1 v2 v3 v5 H locs ls hw hl hf
    have hf := (f_X1_howMany_58.eq_1 ..).symm.trans hf
    cases hf
  | succ i ih =>
    intro v0 v1 v2 v3 v5 H locs ls hw hl hf
    have hf := (f_X1_howMany_58.eq_2 ..).symm.trans hf
    refine lv_iload hx hb dX1_howMany_58 (lv_at hl 4 rfl) ?_
    refine lv_iload_n hx hb dX1_howMany_60 rfl (lv_at hl 1 rfl) ?_
    refine lv_icmp_lt (tgt := 100) hx hb dX1_howMany_61 (by decide) (fun c1 => ?_) (fun c1 => ?_)
    · have hf := (if_pos c1).symm.trans hf
      refine lv_lload_n hx hb dX1_howMany_100 rfl (lv_at hl 3 rfl) ?_
      obtain rfl := so hf
      exact q_lret B hw hz hc0 hr hlk dX1_howMany_101
    · have hf := (if_neg c1).symm.trans hf
      refine lv_lload_n hx hb dX1_howMany_64 rfl (lv_at hl 3 rfl) ?_
      refine lv_aload_n hx hb dX1_howMany_65 rfl (lv_at hl 0 rfl) ?_
      obtain ⟨a2, e, hf⟩ := ob hf
      refine q_getR e B hw fd_1_0.1 fd_1_0.2.1 fd_1_0.2.2.1 fd_1_0.2.2.2.1 fd_1_0.2.2.2.2 rfl tw_2_43 dX1_howMany_66 ?_
      obtain ⟨a3, e, hf⟩ := ob hf
      refine q_getRN e B hw fd_10_3.1 fd_10_3.2.1 fd_10_3.2.2.1 fd_10_3.2.2.2.1 fd_10_3.2.2.2.2 rfl tw_1_232 dX1_howMany_69 ?_
      obtain ⟨x4, e, hf⟩ := ob hf
      refine q_getIN e B hw fd_8_1.1 fd_8_1.2.1 fd_8_1.2.2.1 fd_8_1.2.2.2.1 fd_8_1.2.2.2.2 rfl tw_1_58 dX1_howMany_72 ?_
      refine lv_i2l (v := (Int32.toInt64 x4)) hx hb dX1_howMany_75 rfl ?_
      refine lv_lmul hx hb dX1_howMany_76 ?_
      refine lv_aload_n hx hb dX1_howMany_77 rfl (lv_at hl 0 rfl) ?_
      refine lv_iload_n hx hb dX1_howMany_78 rfl (lv_at hl 2 rfl) ?_
      refine lv_aload_n hx hb dX1_howMany_79 rfl (lv_at hl 0 rfl) ?_
      obtain ⟨a5, e, hf⟩ := ob hf
      refine q_getR e B hw fd_1_0.1 fd_1_0.2.1 fd_1_0.2.2.1 fd_1_0.2.2.2.1 fd_1_0.2.2.2.2 rfl tw_2_43 dX1_howMany_80 ?_
      refine lv_iload hx hb dX1_howMany_83 (lv_at hl 4 rfl) ?_
      obtain ⟨x6, e, hf⟩ := ob hf
      refine q_callVN (As := [.int v5]) (rest := [.int v2, .ref v0, .long (v3 * (Int32.toInt64 x4))]) (st1 := [.int x6, .int v2, .ref v0, .long (v3 * (Int32.toInt64 x4))]) (c_X10_grownAt G e) B hw hz hc0 (k_X10_grownAt e) (by decide) (ci := 10) rfl rfl my_X10_grownAt mv_X10_grownAt tw_5_25 ⟨Nat.le_of_ble_eq_true rfl, Nat.le_of_ble_eq_true rfl⟩ ⟨Nat.zero_le _, Nat.zero_le _⟩ rfl hl.1 rfl rfl (Nat.le_of_ble_eq_true rfl) dX1_howMany_85 (fun H locs hw => ?_)
      refine lv_isub hx hb dX1_howMany_88 ?_
      obtain ⟨x7, e, hf⟩ := ob hf
      refine q_callV (As := [.int (v2 - x6)]) (rest := [.long (v3 * (Int32.toInt64 x4))]) (st1 := [.long x7, .long (v3 * (Int32.toInt64 x4))]) (c_X1_choicesIn G e) B hw hz hc0 (k_X1_choicesIn e) (by decide) (ci := 1) rfl rfl my_X1_choicesIn mv_X1_choicesIn tw_5_21 ⟨Nat.le_of_ble_eq_true rfl, Nat.le_of_ble_eq_true rfl⟩ ⟨Nat.zero_le _, Nat.zero_le _⟩ rfl hl.1 rfl rfl (Nat.le_of_ble_eq_true rfl) dX1_howMany_89 (fun H locs hw => ?_)
      refine lv_ladd hx hb dX1_howMany_92 ?_
      obtain ⟨x8, e, hf⟩ := ob hf
      refine q_nmJ e ?_
      refine lv_lstore_n (lv' := [(3, .long x8), (0, .ref v0), (1, .int v1), (2, .int v2), (5, .int v5)]) hx hb dX1_howMany_93 rfl hl (by decide) rfl (fun ls hl => ?_)
      obtain ⟨x9, e, hf⟩ := ob hf
      refine lv_iinc (v := x9) (lv' := [(5, .int x9), (3, .long x8), (0, .ref v0), (1, .int v1), (2, .int v2)]) hx hb dX1_howMany_94 hl (k := 4) rfl (Option.some.inj e) (by decide) rfl (fun ls hl => ?_)
      refine lv_goto (tgt := 58) hx hb dX1_howMany_97 (by decide) ?_
      exact ih v0 v1 v2 x8 x9 _ _ _ hw (lv_sub hl [2, 3, 4, 1, 0] rfl) hf
set_option maxHeartbeats 4000000 in
theorem w_X1_howMany_45 {p : Program} {l : Launch} {e : Env} {s : State} {m : MethodId} {args : Array Value} {below : List Frame} {meth : Method} {c : Code} {s0 : State} {E : Ev} {z : Sh} {h : Hp} {n : Nat} {r : Int64} (G : Gl s0 E) (B : Bd p s0 s E m c cX1_howMany 6 RX1) (hz : s0.heap.size ≤ z.sz) (hc0 : s.heap.size + 0 = z.sz) (hr : meth.sig.returnType = (some .long)) (hlk : meth.locks = false) : ∀ (v0 : Nat) (v1 : Int32) (v2 : Int32) (H : Heap) (locs : List Loc) (ls : Array Slot), Pw s0 s E z h H locs → lv_has ls 6 [(0, .ref v0), (1, .int v1), (2, .int v2)] → f_X1_howMany_45 n z h v0 v1 v2 = some r → W p l e (rmO 1 24) s m args below meth c H locs 0 0 (Zt below s0 E z h (some (.long r)) args s 0 0) (F0 m 45 ls []) := by
  have hx := B.1
  have hb := B.2.1
  intro v0 v1 v2 H locs ls hw hl hf
  unfold f_X1_howMany_45 at hf
  refine lv_aload_n hx hb dX1_howMany_45 rfl (lv_at hl 0 rfl) ?_
  refine lv_iload_n hx hb dX1_howMany_46 rfl (lv_at hl 2 rfl) ?_
  refine lv_iload_n hx hb dX1_howMany_47 rfl (lv_at hl 1 rfl) ?_
  refine lv_isub hx hb dX1_howMany_48 ?_
  obtain ⟨x1, e, hf⟩ := ob hf
  refine q_callV (As := [.int (v2 - v1)]) (rest := []) (st1 := [.long x1]) (c_X1_choicesIn G e) B hw hz hc0 (k_X1_choicesIn e) (by decide) (ci := 1) rfl rfl my_X1_choicesIn mv_X1_choicesIn tw_5_21 ⟨Nat.le_of_ble_eq_true rfl, Nat.le_of_ble_eq_true rfl⟩ ⟨Nat.zero_le _, Nat.zero_le _⟩ rfl hl.1 rfl rfl (Nat.le_of_ble_eq_true rfl) dX1_howMany_49 (fun H locs hw => ?_)
  obtain rfl := so hf
  exact q_lret B hw hz hc0 hr hlk dX1_howMany_52
set_option maxHeartbeats 4000000 in
theorem c_X1_howMany {l : Launch} {s0 : State} {E : Ev} (G : Gl s0 E) {n : Nat} {z : Sh} {h : Hp} {v0 : Nat} {r : Int64} (hf : f_X1_howMany n z h v0 = some r) : Ct l s0 E yX1_howMany cX1_howMany 6 (some .long) 1 24 [.ref v0] z h h (some (.long r)) := by
  refine Ct.of G (by decide) (Nat.le_of_ble_eq_true rfl) ?_
  intro p e s m below meth c ls B hw hz hc0 hr hlk hl
  have B : Bd p s0 s E m c cX1_howMany 6 RX1 := B
  have hx := B.1
  have hb := B.2.1
  have hl : lv_has ls 6 [(0, .ref v0)] := hl
  unfold f_X1_howMany at hf
  obtain ⟨_, hf⟩ := if_some hf
  refine lv_aload_n hx hb dX1_howMany_0 rfl (lv_at hl 0 rfl) ?_
  obtain ⟨a1, e, hf⟩ := ob hf
  refine q_getR e B hw fd_1_0.1 fd_1_0.2.1 fd_1_0.2.2.1 fd_1_0.2.2.2.1 fd_1_0.2.2.2.2 rfl tw_2_43 dX1_howMany_1 ?_
  obtain ⟨x2, e, hf⟩ := ob hf
  refine q_getIN e B hw fd_10_8.1 fd_10_8.2.1 fd_10_8.2.2.1 fd_10_8.2.2.2.1 fd_10_8.2.2.2.2 rfl tw_2_2 dX1_howMany_4 ?_
  obtain ⟨x3, e, hf⟩ := ob hf
  refine q_callSN (As := [.int x2]) (rest := []) (st1 := [.int x3]) (c_X10_yearOf G e) B hw hz hc0 my_X10_yearOf mv_X10_yearOf tw_5_11 ⟨Nat.le_of_ble_eq_true rfl, Nat.le_of_ble_eq_true rfl⟩ ⟨Nat.zero_le _, Nat.zero_le _⟩ rfl hl.1 rfl rfl (Nat.le_of_ble_eq_true rfl) dX1_howMany_7 (fun H locs hw => ?_)
  refine lv_istore_n (lv' := [(1, .int x3), (0, .ref v0)]) hx hb dX1_howMany_10 rfl hl (by decide) rfl (fun ls hl => ?_)
  refine lv_aload_n hx hb dX1_howMany_11 rfl (lv_at hl 1 rfl) ?_
  obtain ⟨a4, e, hf⟩ := ob hf
  refine q_getR e B hw fd_1_0.1 fd_1_0.2.1 fd_1_0.2.2.1 fd_1_0.2.2.2.1 fd_1_0.2.2.2.2 rfl tw_2_43 dX1_howMany_12 ?_
  obtain ⟨a5, e, hf⟩ := ob hf
  refine q_getRN e B hw fd_10_3.1 fd_10_3.2.1 fd_10_3.2.2.1 fd_10_3.2.2.2.1 fd_10_3.2.2.2.2 rfl tw_1_232 dX1_howMany_15 ?_
  obtain ⟨x6, e, hf⟩ := ob hf
  refine q_getIN e B hw fd_8_0.1 fd_8_0.2.1 fd_8_0.2.2.1 fd_8_0.2.2.2.1 fd_8_0.2.2.2.2 rfl tw_1_54 dX1_howMany_18 ?_
  refine lv_istore_n (lv' := [(2, .int x6), (1, .int x3), (0, .ref v0)]) hx hb dX1_howMany_21 rfl hl (by decide) rfl (fun ls hl => ?_)
  refine lv_aload_n hx hb dX1_howMany_22 rfl (lv_at hl 2 rfl) ?_
  obtain ⟨a7, e, hf⟩ := ob hf
  refine q_getR e B hw fd_1_0.1 fd_1_0.2.1 fd_1_0.2.2.1 fd_1_0.2.2.2.1 fd_1_0.2.2.2.2 rfl tw_2_43 dX1_howMany_23 ?_
  obtain ⟨x8, e, hf⟩ := ob hf
  refine q_getIN e B hw fd_10_8.1 fd_10_8.2.1 fd_10_8.2.2.1 fd_10_8.2.2.2.1 fd_10_8.2.2.2.2 rfl tw_2_2 dX1_howMany_26 ?_
  obtain ⟨x9, e, hf⟩ := ob hf
  refine q_callSN (As := [.int x8]) (rest := []) (st1 := [.int x9]) (c_X10_lifeOf G e) B hw hz hc0 my_X10_lifeOf mv_X10_lifeOf tw_5_20 ⟨Nat.le_of_ble_eq_true rfl, Nat.le_of_ble_eq_true rfl⟩ ⟨Nat.zero_le _, Nat.zero_le _⟩ rfl hl.1 rfl rfl (Nat.le_of_ble_eq_true rfl) dX1_howMany_29 (fun H locs hw => ?_)
  refine lv_if_ne (tgt := 45) hx hb dX1_howMany_32 (by decide) (fun c10 => ?_) (fun c10 => ?_)
  · have hf := (if_neg c10).symm.trans hf
    exact w_X1_howMany_45 G B hz hc0 hr hlk  v0 x3 x6 _ _ _ hw (lv_sub hl [2, 1, 0] rfl) hf
  · have hf := (if_pos c10).symm.trans hf
    refine lv_aload_n hx hb dX1_howMany_35 rfl (lv_at hl 2 rfl) ?_
    obtain ⟨a11, e, hf⟩ := ob hf
    refine q_getR e B hw fd_1_0.1 fd_1_0.2.1 fd_1_0.2.2.1 fd_1_0.2.2.2.1 fd_1_0.2.2.2.2 rfl tw_2_43 dX1_howMany_36 ?_
    obtain ⟨x12, e, hf⟩ := ob hf
    refine q_getIN e B hw fd_10_6.1 fd_10_6.2.1 fd_10_6.2.2.1 fd_10_6.2.2.2.1 fd_10_6.2.2.2.2 rfl tw_1_236 dX1_howMany_39 ?_
    refine lv_if_ne (tgt := 53) hx hb dX1_howMany_42 (by decide) (fun c13 => ?_) (fun c13 => ?_)
    · have hf := (if_neg c13).symm.trans hf
      refine lv_lconst (v := 0) hx hb dX1_howMany_53 (by decide) ?_
      refine lv_lstore_n (lv' := [(3, .long 0), (2, .int x6), (1, .int x3), (0, .ref v0)]) hx hb dX1_howMany_54 rfl hl (by decide) rfl (fun ls hl => ?_)
      refine lv_iload_n hx hb dX1_howMany_55 rfl (lv_at hl 1 rfl) ?_
      refine lv_istore (lv' := [(5, .int x6), (3, .long 0), (2, .int x6), (1, .int x3), (0, .ref v0)]) hx hb dX1_howMany_56 hl (by decide) rfl (fun ls hl => ?_)
      exact w_X1_howMany_58 G B hz hc0 hr hlk  n v0 x3 x6 0 x6 _ _ _ hw (lv_sub hl [4, 3, 2, 1, 0] rfl) hf
    · have hf := (if_pos c13).symm.trans hf
      exact w_X1_howMany_45 G B hz hc0 hr hlk  v0 x3 x6 _ _ _ hw (lv_sub hl [2, 1, 0] rfl) hf
/-! SecondLife$Courses.reach(III)V -/
def f_X1_reach (z : Sh) (h : Hp) (v0 : Nat) (v1 : Int32) (v2 : Int32) (v3 : Int32) : Option (Hp) :=
  if z.K v0 = 1 then
    if v1 < 0 then
      some h
    else
      (gR z h 1 v0 2).bind fun a2 =>
      (aL z a2).bind fun x3 =>
      if x3 ≤ v1 then
        some h
      else
        (gR z h 1 v0 3).bind fun a5 =>
        (aL z a5).bind fun x6 =>
        if x6 ≤ v1 then
          some h
        else
          (gR z h 1 v0 2).bind fun a8 =>
          (gR z h 1 v0 2).bind fun a9 =>
          (ldI z h a9 v1).bind fun x10 =>
          (f_J9_max_7cf53 z h x10 v2).bind fun x11 =>
          (stI z h a8 v1 x11).bind fun h12 =>
          (gR z h12 1 v0 3).bind fun a13 =>
          (stI z h12 a13 v1 v3).bind fun h14 =>
          some h14
  else none
theorem k_X1_reach {z : Sh} {h : Hp} {v0 : Nat} {v1 : Int32} {v2 : Int32} {v3 : Int32} {w : Hp} (hf : f_X1_reach z h v0 v1 v2 v3 = some w) : z.K v0 = 1 := by
  unfold f_X1_reach at hf
  exact (if_some hf).1
set_option maxHeartbeats 4000000 in
theorem c_X1_reach {l : Launch} {s0 : State} {E : Ev} (G : Gl s0 E) {z : Sh} {h : Hp} {v0 : Nat} {v1 : Int32} {v2 : Int32} {v3 : Int32} {h' : Hp} (hf : f_X1_reach z h v0 v1 v2 v3 = some h') : Ct l s0 E yX1_reach cX1_reach 4 none 1 21 [.ref v0, .int v1, .int v2, .int v3] z h h' (none) := by
  refine Ct.of G (by decide) (Nat.le_of_ble_eq_true rfl) ?_
  intro p e s m below meth c ls B hw hz hc0 hr hlk hl
  have B : Bd p s0 s E m c cX1_reach 4 RX1 := B
  have hx := B.1
  have hb := B.2.1
  have hl : lv_has ls 4 [(0, .ref v0), (1, .int v1), (2, .int v2), (3, .int v3)] := hl
  unfold f_X1_reach at hf
  obtain ⟨_, hf⟩ := if_some hf
  refine lv_iload_n hx hb dX1_reach_0 rfl (lv_at hl 1 rfl) ?_
  refine lv_if_lt (tgt := 45) hx hb dX1_reach_1 (by decide) (fun c1 => ?_) (fun c1 => ?_)
  · have hf := (if_pos c1).symm.trans hf
    obtain rfl := so hf
    exact q_vret B hw hz hc0 hr hlk dX1_reach_45
  · have hf := (if_neg c1).symm.trans hf
    refine lv_iload_n hx hb dX1_reach_4 rfl (lv_at hl 1 rfl) ?_
    refine lv_aload_n hx hb dX1_reach_5 rfl (lv_at hl 0 rfl) ?_
    obtain ⟨a2, e, hf⟩ := ob hf
    refine q_getR e B hw fd_1_2.1 fd_1_2.2.1 fd_1_2.2.2.1 fd_1_2.2.2.2.1 fd_1_2.2.2.2.2 rfl tw_2_45 dX1_reach_6 ?_
    obtain ⟨x3, e, hf⟩ := ob hf
    refine q_len e B hw dX1_reach_9 ?_
    refine lv_icmp_ge (tgt := 45) hx hb dX1_reach_10 (by decide) (fun c4 => ?_) (fun c4 => ?_)
    · have hf := (if_pos c4).symm.trans hf
      obtain rfl := so hf
      exact q_vret B hw hz hc0 hr hlk dX1_reach_45
    · have hf := (if_neg c4).symm.trans hf
      refine lv_iload_n hx hb dX1_reach_13 rfl (lv_at hl 1 rfl) ?_
      refine lv_aload_n hx hb dX1_reach_14 rfl (lv_at hl 0 rfl) ?_
      obtain ⟨a5, e, hf⟩ := ob hf
      refine q_getR e B hw fd_1_3.1 fd_1_3.2.1 fd_1_3.2.2.1 fd_1_3.2.2.2.1 fd_1_3.2.2.2.2 rfl tw_2_46 dX1_reach_15 ?_
      obtain ⟨x6, e, hf⟩ := ob hf
      refine q_len e B hw dX1_reach_18 ?_
      refine lv_icmp_ge (tgt := 45) hx hb dX1_reach_19 (by decide) (fun c7 => ?_) (fun c7 => ?_)
      · have hf := (if_pos c7).symm.trans hf
        obtain rfl := so hf
        exact q_vret B hw hz hc0 hr hlk dX1_reach_45
      · have hf := (if_neg c7).symm.trans hf
        refine lv_aload_n hx hb dX1_reach_22 rfl (lv_at hl 0 rfl) ?_
        obtain ⟨a8, e, hf⟩ := ob hf
        refine q_getR e B hw fd_1_2.1 fd_1_2.2.1 fd_1_2.2.2.1 fd_1_2.2.2.2.1 fd_1_2.2.2.2.2 rfl tw_2_45 dX1_reach_23 ?_
        refine lv_iload_n hx hb dX1_reach_26 rfl (lv_at hl 1 rfl) ?_
        refine lv_aload_n hx hb dX1_reach_27 rfl (lv_at hl 0 rfl) ?_
        obtain ⟨a9, e, hf⟩ := ob hf
        refine q_getR e B hw fd_1_2.1 fd_1_2.2.1 fd_1_2.2.2.1 fd_1_2.2.2.2.1 fd_1_2.2.2.2.2 rfl tw_2_45 dX1_reach_28 ?_
        refine lv_iload_n hx hb dX1_reach_31 rfl (lv_at hl 1 rfl) ?_
        obtain ⟨x10, e, hf⟩ := ob hf
        refine q_ldI e B hw dX1_reach_32 ?_
        refine lv_iload_n hx hb dX1_reach_33 rfl (lv_at hl 2 rfl) ?_
        obtain ⟨x11, e, hf⟩ := ob hf
        refine q_callS (As := [.int x10, .int v2]) (rest := [.int v1, .ref a8]) (st1 := [.int x11, .int v1, .ref a8]) (c_J9_max_7cf53 G e) B hw hz hc0 my_J9_max_7cf53 mv_J9_max_7cf53 tw_5_40 ⟨Nat.le_of_ble_eq_true rfl, Nat.le_of_ble_eq_true rfl⟩ ⟨Nat.zero_le _, Nat.zero_le _⟩ rfl hl.1 rfl rfl (Nat.le_of_ble_eq_true rfl) dX1_reach_34 (fun H locs hw => ?_)
        obtain ⟨h12, e, hf⟩ := ob hf
        refine q_stI e B hw dX1_reach_37 (fun H locs hw => ?_)
        refine lv_aload_n hx hb dX1_reach_38 rfl (lv_at hl 0 rfl) ?_
        obtain ⟨a13, e, hf⟩ := ob hf
        refine q_getR e B hw fd_1_3.1 fd_1_3.2.1 fd_1_3.2.2.1 fd_1_3.2.2.2.1 fd_1_3.2.2.2.2 rfl tw_2_46 dX1_reach_39 ?_
        refine lv_iload_n hx hb dX1_reach_42 rfl (lv_at hl 1 rfl) ?_
        refine lv_iload_n hx hb dX1_reach_43 rfl (lv_at hl 3 rfl) ?_
        obtain ⟨h14, e, hf⟩ := ob hf
        refine q_stI e B hw dX1_reach_44 (fun H locs hw => ?_)
        obtain rfl := so hf
        exact q_vret B hw hz hc0 hr hlk dX1_reach_45
/-! SecondLife$Deeds.pledges(LSecondLife$People;II)I -/
def f_X2_pledges (z : Sh) (h : Hp) (v0 : Nat) (v1 : Nat) (v2 : Int32) (v3 : Int32) : Option (Int32 × Hp) :=
  if z.K v0 = 2 then
    (f_X5_has z h v1 v2).bind fun x1 =>
    if x1 = 0 then
      some ((1 : Int32), h)
    else
      if v3 < 1 then
        some ((1 : Int32), h)
      else
        if v3 ≤ 99 then
          (f_X5_part z h v1 v2 1).bind fun x5 =>
          if x5 = 1 then
            (f_X5_part z h v1 v2 8).bind fun x7 =>
            if x7 ≤ 0 then
              (gI z h 5 v1 2).bind fun x9 =>
              if v3 ≤ x9 then
                (f_X5_put z h v1 v2 8 v3).bind fun h11 =>
                (f_X5_part z h11 v1 v2 2).bind fun x12 =>
                (f_X5_put z h11 v1 v2 2 (x12 + v3)).bind fun h13 =>
                (gI z h13 5 v1 2).bind fun x14 =>
                (pI z h13 5 v1 2 (x14 - v3)).bind fun h15 =>
                some ((0 : Int32), h15)
              else
                some ((4 : Int32), h)
            else
              some ((3 : Int32), h)
          else
            some ((2 : Int32), h)
        else
          some ((1 : Int32), h)
  else none
theorem k_X2_pledges {z : Sh} {h : Hp} {v0 : Nat} {v1 : Nat} {v2 : Int32} {v3 : Int32} {w : Int32 × Hp} (hf : f_X2_pledges z h v0 v1 v2 v3 = some w) : z.K v0 = 2 := by
  unfold f_X2_pledges at hf
  exact (if_some hf).1
set_option maxHeartbeats 4000000 in
theorem c_X2_pledges {l : Launch} {s0 : State} {E : Ev} (G : Gl s0 E) {z : Sh} {h : Hp} {v0 : Nat} {v1 : Nat} {v2 : Int32} {v3 : Int32} {r : Int32} {h' : Hp} (hf : f_X2_pledges z h v0 v1 v2 v3 = some (r, h')) : Ct l s0 E yX2_pledges cX2_pledges 4 (some .int) 1 24 [.ref v0, .ref v1, .int v2, .int v3] z h h' (some (.int r)) := by
  refine Ct.of G (by decide) (Nat.le_of_ble_eq_true rfl) ?_
  intro p e s m below meth c ls B hw hz hc0 hr hlk hl
  have B : Bd p s0 s E m c cX2_pledges 4 RX2 := B
  have hx := B.1
  have hb := B.2.1
  have hl : lv_has ls 4 [(0, .ref v0), (1, .ref v1), (2, .int v2), (3, .int v3)] := hl
  unfold f_X2_pledges at hf
  obtain ⟨_, hf⟩ := if_some hf
  refine lv_aload_n hx hb dX2_pledges_0 rfl (lv_at hl 1 rfl) ?_
  refine lv_iload_n hx hb dX2_pledges_1 rfl (lv_at hl 2 rfl) ?_
  obtain ⟨x1, e, hf⟩ := ob hf
  refine q_callVN (As := [.int v2]) (rest := []) (st1 := [.int x1]) (c_X5_has G e) B hw hz hc0 (k_X5_has e) (by decide) (ci := 5) rfl rfl my_X5_has mv_X5_has tw_4_34 ⟨Nat.le_of_ble_eq_true rfl, Nat.le_of_ble_eq_true rfl⟩ ⟨Nat.zero_le _, Nat.zero_le _⟩ rfl hl.1 rfl rfl (Nat.le_of_ble_eq_true rfl) dX2_pledges_2 (fun H locs hw => ?_)
  refine lv_if_eq (tgt := 19) hx hb dX2_pledges_5 (by decide) (fun c2 => ?_) (fun c2 => ?_)
  · have hf := (if_pos c2).symm.trans hf
    refine lv_iconst (v := 1) hx hb dX2_pledges_19 (by decide) ?_
    obtain ⟨rfl, rfl⟩ := so2 hf
    exact q_iret B hw hz hc0 hr hlk dX2_pledges_20
  · have hf := (if_neg c2).symm.trans hf
    refine lv_iload_n hx hb dX2_pledges_8 rfl (lv_at hl 3 rfl) ?_
    refine lv_iconst (v := 1) hx hb dX2_pledges_9 (by decide) ?_
    refine lv_icmp_lt (tgt := 19) hx hb dX2_pledges_10 (by decide) (fun c3 => ?_) (fun c3 => ?_)
    · have hf := (if_pos c3).symm.trans hf
      refine lv_iconst (v := 1) hx hb dX2_pledges_19 (by decide) ?_
      obtain ⟨rfl, rfl⟩ := so2 hf
      exact q_iret B hw hz hc0 hr hlk dX2_pledges_20
    · have hf := (if_neg c3).symm.trans hf
      refine lv_iload_n hx hb dX2_pledges_13 rfl (lv_at hl 3 rfl) ?_
      refine lv_bipush (v := 99) hx hb dX2_pledges_14 (by decide) ?_
      refine lv_icmp_le (tgt := 21) hx hb dX2_pledges_16 (by decide) (fun c4 => ?_) (fun c4 => ?_)
      · have hf := (if_pos c4).symm.trans hf
        refine lv_aload_n hx hb dX2_pledges_21 rfl (lv_at hl 1 rfl) ?_
        refine lv_iload_n hx hb dX2_pledges_22 rfl (lv_at hl 2 rfl) ?_
        refine lv_iconst (v := 1) hx hb dX2_pledges_23 (by decide) ?_
        obtain ⟨x5, e, hf⟩ := ob hf
        refine q_callVN (As := [.int v2, .int 1]) (rest := []) (st1 := [.int x5]) (c_X5_part G e) B hw hz hc0 (k_X5_part e) (by decide) (ci := 5) rfl rfl my_X5_part mv_X5_part tw_4_36 ⟨Nat.le_of_ble_eq_true rfl, Nat.le_of_ble_eq_true rfl⟩ ⟨Nat.zero_le _, Nat.zero_le _⟩ rfl hl.1 rfl rfl (Nat.le_of_ble_eq_true rfl) dX2_pledges_24 (fun H locs hw => ?_)
        refine lv_iconst (v := 1) hx hb dX2_pledges_27 (by decide) ?_
        refine lv_icmp_eq (tgt := 33) hx hb dX2_pledges_28 (by decide) (fun c6 => ?_) (fun c6 => ?_)
        · have hf := (if_pos c6).symm.trans hf
          refine lv_aload_n hx hb dX2_pledges_33 rfl (lv_at hl 1 rfl) ?_
          refine lv_iload_n hx hb dX2_pledges_34 rfl (lv_at hl 2 rfl) ?_
          refine lv_bipush (v := 8) hx hb dX2_pledges_35 (by decide) ?_
          obtain ⟨x7, e, hf⟩ := ob hf
          refine q_callVN (As := [.int v2, .int 8]) (rest := []) (st1 := [.int x7]) (c_X5_part G e) B hw hz hc0 (k_X5_part e) (by decide) (ci := 5) rfl rfl my_X5_part mv_X5_part tw_4_36 ⟨Nat.le_of_ble_eq_true rfl, Nat.le_of_ble_eq_true rfl⟩ ⟨Nat.zero_le _, Nat.zero_le _⟩ rfl hl.1 rfl rfl (Nat.le_of_ble_eq_true rfl) dX2_pledges_37 (fun H locs hw => ?_)
          refine lv_if_le (tgt := 45) hx hb dX2_pledges_40 (by decide) (fun c8 => ?_) (fun c8 => ?_)
          · have hf := (if_pos c8).symm.trans hf
            refine lv_iload_n hx hb dX2_pledges_45 rfl (lv_at hl 3 rfl) ?_
            refine lv_aload_n hx hb dX2_pledges_46 rfl (lv_at hl 1 rfl) ?_
            obtain ⟨x9, e, hf⟩ := ob hf
            refine q_getIN e B hw fd_5_2.1 fd_5_2.2.1 fd_5_2.2.2.1 fd_5_2.2.2.2.1 fd_5_2.2.2.2.2 rfl tw_1_154 dX2_pledges_47 ?_
            refine lv_icmp_le (tgt := 55) hx hb dX2_pledges_50 (by decide) (fun c10 => ?_) (fun c10 => ?_)
            · have hf := (if_pos c10).symm.trans hf
              refine lv_aload_n hx hb dX2_pledges_55 rfl (lv_at hl 1 rfl) ?_
              refine lv_iload_n hx hb dX2_pledges_56 rfl (lv_at hl 2 rfl) ?_
              refine lv_bipush (v := 8) hx hb dX2_pledges_57 (by decide) ?_
              refine lv_iload_n hx hb dX2_pledges_59 rfl (lv_at hl 3 rfl) ?_
              obtain ⟨h11, e, hf⟩ := ob hf
              refine q_callVN (As := [.int v2, .int 8, .int v3]) (rest := []) (st1 := []) (c_X5_put G e) B hw hz hc0 (k_X5_put e) (by decide) (ci := 5) rfl rfl my_X5_put mv_X5_put tw_4_39 ⟨Nat.le_of_ble_eq_true rfl, Nat.le_of_ble_eq_true rfl⟩ ⟨Nat.zero_le _, Nat.zero_le _⟩ rfl hl.1 rfl rfl (Nat.le_of_ble_eq_true rfl) dX2_pledges_60 (fun H locs hw => ?_)
              refine lv_aload_n hx hb dX2_pledges_63 rfl (lv_at hl 1 rfl) ?_
              refine lv_iload_n hx hb dX2_pledges_64 rfl (lv_at hl 2 rfl) ?_
              refine lv_iconst (v := 2) hx hb dX2_pledges_65 (by decide) ?_
              refine lv_aload_n hx hb dX2_pledges_66 rfl (lv_at hl 1 rfl) ?_
              refine lv_iload_n hx hb dX2_pledges_67 rfl (lv_at hl 2 rfl) ?_
              refine lv_iconst (v := 2) hx hb dX2_pledges_68 (by decide) ?_
              obtain ⟨x12, e, hf⟩ := ob hf
              refine q_callVN (As := [.int v2, .int 2]) (rest := [.int 2, .int v2, .ref v1]) (st1 := [.int x12, .int 2, .int v2, .ref v1]) (c_X5_part G e) B hw hz hc0 (k_X5_part e) (by decide) (ci := 5) rfl rfl my_X5_part mv_X5_part tw_4_36 ⟨Nat.le_of_ble_eq_true rfl, Nat.le_of_ble_eq_true rfl⟩ ⟨Nat.zero_le _, Nat.zero_le _⟩ rfl hl.1 rfl rfl (Nat.le_of_ble_eq_true rfl) dX2_pledges_69 (fun H locs hw => ?_)
              refine lv_iload_n hx hb dX2_pledges_72 rfl (lv_at hl 3 rfl) ?_
              refine lv_iadd hx hb dX2_pledges_73 ?_
              obtain ⟨h13, e, hf⟩ := ob hf
              refine q_callVN (As := [.int v2, .int 2, .int (x12 + v3)]) (rest := []) (st1 := []) (c_X5_put G e) B hw hz hc0 (k_X5_put e) (by decide) (ci := 5) rfl rfl my_X5_put mv_X5_put tw_4_39 ⟨Nat.le_of_ble_eq_true rfl, Nat.le_of_ble_eq_true rfl⟩ ⟨Nat.zero_le _, Nat.zero_le _⟩ rfl hl.1 rfl rfl (Nat.le_of_ble_eq_true rfl) dX2_pledges_74 (fun H locs hw => ?_)
              refine lv_aload_n hx hb dX2_pledges_77 rfl (lv_at hl 1 rfl) ?_
              refine lv_dup hx hb dX2_pledges_78 rfl ?_
              obtain ⟨x14, e, hf⟩ := ob hf
              refine q_getIN e B hw fd_5_2.1 fd_5_2.2.1 fd_5_2.2.2.1 fd_5_2.2.2.2.1 fd_5_2.2.2.2.2 rfl tw_1_154 dX2_pledges_79 ?_
              refine lv_iload_n hx hb dX2_pledges_82 rfl (lv_at hl 3 rfl) ?_
              refine lv_isub hx hb dX2_pledges_83 ?_
              obtain ⟨h15, e, hf⟩ := ob hf
              refine q_putIN e B hw fd_5_2.1 fd_5_2.2.1 fd_5_2.2.2.1 fd_5_2.2.2.2.1 fd_5_2.2.2.2.2 rfl rfl (tyX5_ok 2 (by decide)) tyX5 tyX5_ok nmX5 tw_1_154 dX2_pledges_84 (fun H locs hw => ?_)
              refine lv_iconst (v := 0) hx hb dX2_pledges_87 (by decide) ?_
              obtain ⟨rfl, rfl⟩ := so2 hf
              exact q_iret B hw hz hc0 hr hlk dX2_pledges_88
            · have hf := (if_neg c10).symm.trans hf
              refine lv_iconst (v := 4) hx hb dX2_pledges_53 (by decide) ?_
              obtain ⟨rfl, rfl⟩ := so2 hf
              exact q_iret B hw hz hc0 hr hlk dX2_pledges_54
          · have hf := (if_neg c8).symm.trans hf
            refine lv_iconst (v := 3) hx hb dX2_pledges_43 (by decide) ?_
            obtain ⟨rfl, rfl⟩ := so2 hf
            exact q_iret B hw hz hc0 hr hlk dX2_pledges_44
        · have hf := (if_neg c6).symm.trans hf
          refine lv_iconst (v := 2) hx hb dX2_pledges_31 (by decide) ?_
          obtain ⟨rfl, rfl⟩ := so2 hf
          exact q_iret B hw hz hc0 hr hlk dX2_pledges_32
      · have hf := (if_neg c4).symm.trans hf
        refine lv_iconst (v := 1) hx hb dX2_pledges_19 (by decide) ?_
        obtain ⟨rfl, rfl⟩ := so2 hf
        exact q_iret B hw hz hc0 hr hlk dX2_pledges_20
/-! SecondLife$Deeds.redeems(LSecondLife$People;I)I -/
def f_X2_redeems (z : Sh) (h : Hp) (v0 : Nat) (v1 : Nat) (v2 : Int32) : Option (Int32 × Hp) :=
  if z.K v0 = 2 then
    (f_X5_has z h v1 v2).bind fun x1 =>
    if x1 = 0 then
      some ((1 : Int32), h)
    else
      (f_X5_part z h v1 v2 8).bind fun x3 =>
      if x3 = 0 then
        some ((3 : Int32), h)
      else
        (f_X5_put z h v1 v2 8 0).bind fun h5 =>
        (f_X5_part z h5 v1 v2 2).bind fun x6 =>
        (f_X5_put z h5 v1 v2 2 (x6 - x3)).bind fun h7 =>
        (gI z h7 5 v1 2).bind fun x8 =>
        (pI z h7 5 v1 2 (x8 + x3)).bind fun h9 =>
        some ((0 : Int32), h9)
  else none
theorem k_X2_redeems {z : Sh} {h : Hp} {v0 : Nat} {v1 : Nat} {v2 : Int32} {w : Int32 × Hp} (hf : f_X2_redeems z h v0 v1 v2 = some w) : z.K v0 = 2 := by
  unfold f_X2_redeems at hf
  exact (if_some hf).1
set_option maxHeartbeats 4000000 in
theorem c_X2_redeems {l : Launch} {s0 : State} {E : Ev} (G : Gl s0 E) {z : Sh} {h : Hp} {v0 : Nat} {v1 : Nat} {v2 : Int32} {r : Int32} {h' : Hp} (hf : f_X2_redeems z h v0 v1 v2 = some (r, h')) : Ct l s0 E yX2_redeems cX2_redeems 4 (some .int) 1 24 [.ref v0, .ref v1, .int v2] z h h' (some (.int r)) := by
  refine Ct.of G (by decide) (Nat.le_of_ble_eq_true rfl) ?_
  intro p e s m below meth c ls B hw hz hc0 hr hlk hl
  have B : Bd p s0 s E m c cX2_redeems 4 RX2 := B
  have hx := B.1
  have hb := B.2.1
  have hl : lv_has ls 4 [(0, .ref v0), (1, .ref v1), (2, .int v2)] := hl
  unfold f_X2_redeems at hf
  obtain ⟨_, hf⟩ := if_some hf
  refine lv_aload_n hx hb dX2_redeems_0 rfl (lv_at hl 1 rfl) ?_
  refine lv_iload_n hx hb dX2_redeems_1 rfl (lv_at hl 2 rfl) ?_
  obtain ⟨x1, e, hf⟩ := ob hf
  refine q_callVN (As := [.int v2]) (rest := []) (st1 := [.int x1]) (c_X5_has G e) B hw hz hc0 (k_X5_has e) (by decide) (ci := 5) rfl rfl my_X5_has mv_X5_has tw_4_34 ⟨Nat.le_of_ble_eq_true rfl, Nat.le_of_ble_eq_true rfl⟩ ⟨Nat.zero_le _, Nat.zero_le _⟩ rfl hl.1 rfl rfl (Nat.le_of_ble_eq_true rfl) dX2_redeems_2 (fun H locs hw => ?_)
  refine lv_if_ne (tgt := 10) hx hb dX2_redeems_5 (by decide) (fun c2 => ?_) (fun c2 => ?_)
  · have hf := (if_neg c2).symm.trans hf
    refine lv_aload_n hx hb dX2_redeems_10 rfl (lv_at hl 1 rfl) ?_
    refine lv_iload_n hx hb dX2_redeems_11 rfl (lv_at hl 2 rfl) ?_
    refine lv_bipush (v := 8) hx hb dX2_redeems_12 (by decide) ?_
    obtain ⟨x3, e, hf⟩ := ob hf
    refine q_callVN (As := [.int v2, .int 8]) (rest := []) (st1 := [.int x3]) (c_X5_part G e) B hw hz hc0 (k_X5_part e) (by decide) (ci := 5) rfl rfl my_X5_part mv_X5_part tw_4_36 ⟨Nat.le_of_ble_eq_true rfl, Nat.le_of_ble_eq_true rfl⟩ ⟨Nat.zero_le _, Nat.zero_le _⟩ rfl hl.1 rfl rfl (Nat.le_of_ble_eq_true rfl) dX2_redeems_14 (fun H locs hw => ?_)
    refine lv_istore_n (lv' := [(3, .int x3), (0, .ref v0), (1, .ref v1), (2, .int v2)]) hx hb dX2_redeems_17 rfl hl (by decide) rfl (fun ls hl => ?_)
    refine lv_iload_n hx hb dX2_redeems_18 rfl (lv_at hl 0 rfl) ?_
    refine lv_if_ne (tgt := 24) hx hb dX2_redeems_19 (by decide) (fun c4 => ?_) (fun c4 => ?_)
    · have hf := (if_neg c4).symm.trans hf
      refine lv_aload_n hx hb dX2_redeems_24 rfl (lv_at hl 2 rfl) ?_
      refine lv_iload_n hx hb dX2_redeems_25 rfl (lv_at hl 3 rfl) ?_
      refine lv_bipush (v := 8) hx hb dX2_redeems_26 (by decide) ?_
      refine lv_iconst (v := 0) hx hb dX2_redeems_28 (by decide) ?_
      obtain ⟨h5, e, hf⟩ := ob hf
      refine q_callVN (As := [.int v2, .int 8, .int 0]) (rest := []) (st1 := []) (c_X5_put G e) B hw hz hc0 (k_X5_put e) (by decide) (ci := 5) rfl rfl my_X5_put mv_X5_put tw_4_39 ⟨Nat.le_of_ble_eq_true rfl, Nat.le_of_ble_eq_true rfl⟩ ⟨Nat.zero_le _, Nat.zero_le _⟩ rfl hl.1 rfl rfl (Nat.le_of_ble_eq_true rfl) dX2_redeems_29 (fun H locs hw => ?_)
      refine lv_aload_n hx hb dX2_redeems_32 rfl (lv_at hl 2 rfl) ?_
      refine lv_iload_n hx hb dX2_redeems_33 rfl (lv_at hl 3 rfl) ?_
      refine lv_iconst (v := 2) hx hb dX2_redeems_34 (by decide) ?_
      refine lv_aload_n hx hb dX2_redeems_35 rfl (lv_at hl 2 rfl) ?_
      refine lv_iload_n hx hb dX2_redeems_36 rfl (lv_at hl 3 rfl) ?_
      refine lv_iconst (v := 2) hx hb dX2_redeems_37 (by decide) ?_
      obtain ⟨x6, e, hf⟩ := ob hf
      refine q_callVN (As := [.int v2, .int 2]) (rest := [.int 2, .int v2, .ref v1]) (st1 := [.int x6, .int 2, .int v2, .ref v1]) (c_X5_part G e) B hw hz hc0 (k_X5_part e) (by decide) (ci := 5) rfl rfl my_X5_part mv_X5_part tw_4_36 ⟨Nat.le_of_ble_eq_true rfl, Nat.le_of_ble_eq_true rfl⟩ ⟨Nat.zero_le _, Nat.zero_le _⟩ rfl hl.1 rfl rfl (Nat.le_of_ble_eq_true rfl) dX2_redeems_38 (fun H locs hw => ?_)
      refine lv_iload_n hx hb dX2_redeems_41 rfl (lv_at hl 0 rfl) ?_
      refine lv_isub hx hb dX2_redeems_42 ?_
      obtain ⟨h7, e, hf⟩ := ob hf
      refine q_callVN (As := [.int v2, .int 2, .int (x6 - x3)]) (rest := []) (st1 := []) (c_X5_put G e) B hw hz hc0 (k_X5_put e) (by decide) (ci := 5) rfl rfl my_X5_put mv_X5_put tw_4_39 ⟨Nat.le_of_ble_eq_true rfl, Nat.le_of_ble_eq_true rfl⟩ ⟨Nat.zero_le _, Nat.zero_le _⟩ rfl hl.1 rfl rfl (Nat.le_of_ble_eq_true rfl) dX2_redeems_43 (fun H locs hw => ?_)
      refine lv_aload_n hx hb dX2_redeems_46 rfl (lv_at hl 2 rfl) ?_
      refine lv_dup hx hb dX2_redeems_47 rfl ?_
      obtain ⟨x8, e, hf⟩ := ob hf
      refine q_getIN e B hw fd_5_2.1 fd_5_2.2.1 fd_5_2.2.2.1 fd_5_2.2.2.2.1 fd_5_2.2.2.2.2 rfl tw_1_154 dX2_redeems_48 ?_
      refine lv_iload_n hx hb dX2_redeems_51 rfl (lv_at hl 0 rfl) ?_
      refine lv_iadd hx hb dX2_redeems_52 ?_
      obtain ⟨h9, e, hf⟩ := ob hf
      refine q_putIN e B hw fd_5_2.1 fd_5_2.2.1 fd_5_2.2.2.1 fd_5_2.2.2.2.1 fd_5_2.2.2.2.2 rfl rfl (tyX5_ok 2 (by decide)) tyX5 tyX5_ok nmX5 tw_1_154 dX2_redeems_53 (fun H locs hw => ?_)
      refine lv_iconst (v := 0) hx hb dX2_redeems_56 (by decide) ?_
      obtain ⟨rfl, rfl⟩ := so2 hf
      exact q_iret B hw hz hc0 hr hlk dX2_redeems_57
    · have hf := (if_pos c4).symm.trans hf
      refine lv_iconst (v := 3) hx hb dX2_redeems_22 (by decide) ?_
      obtain ⟨rfl, rfl⟩ := so2 hf
      exact q_iret B hw hz hc0 hr hlk dX2_redeems_23
  · have hf := (if_pos c2).symm.trans hf
    refine lv_iconst (v := 1) hx hb dX2_redeems_8 (by decide) ?_
    obtain ⟨rfl, rfl⟩ := so2 hf
    exact q_iret B hw hz hc0 hr hlk dX2_redeems_9
