/-! SecondLife$People.drawn()I -/
def f_X5_drawn_30 (n : Nat) (z : Sh) (h : Hp) (k4 : Nat → Int32 → Int32 → Option (Int32)) (v0 : Nat) (v2 : Int32) (u0 : Int32) (u1 : Int32) : Option (Int32) :=
  (some (u1 ||| u0)).bind fun x1 =>
  (some (v2 + 1)).bind fun x2 =>
  k4 v0 x1 x2
def f_X5_drawn_4 (n : Nat) (z : Sh) (h : Hp) : Nat → Nat → Int32 → Int32 → Option (Int32)
  | 0, _, _, _ => none
  | i + 1, v0, v1, v2 =>
    (gI z h 5 v0 1).bind fun x1 =>
    if x1 ≤ v2 then
      some v1
    else
      (f_X5_part z h v0 v2 1).bind fun x3 =>
      if x3 = 2 then
        f_X5_drawn_30 n z h (f_X5_drawn_4 n z h i) v0 v2 ((1 : Int32) <<< (v2 &&& 31)) v1
      else
        f_X5_drawn_30 n z h (f_X5_drawn_4 n z h i) v0 v2 0 v1
def f_X5_drawn (n : Nat) (z : Sh) (h : Hp) (v0 : Nat) : Option (Int32) :=
  if z.K v0 = 5 then
    f_X5_drawn_4 n z h n v0 0 0
  else none
theorem k_X5_drawn {n : Nat} {z : Sh} {h : Hp} {v0 : Nat} {w : Int32} (hf : f_X5_drawn n z h v0 = some w) : z.K v0 = 5 := by
  unfold f_X5_drawn at hf
  exact (if_some hf).1
set_option maxHeartbeats 4000000 in
theorem w_X5_drawn_30 {p : Program} {l : Launch} {e : Env} {s : State} {m : MethodId} {args : Array Value} {below : List Frame} {meth : Method} {c : Code} {s0 : State} {E : Ev} {z : Sh} {h : Hp} {n : Nat} {k4 : Nat → Int32 → Int32 → Option (Int32)} {r : Int32} (G : Gl s0 E) (B : Bd p s0 s E m c cX5_drawn 3 RX5) (hz : s0.heap.size ≤ z.sz) (hc0 : s.heap.size + 0 = z.sz) (hr : meth.sig.returnType = (some .int)) (hlk : meth.locks = false) (hk4 : ∀ (v0 : Nat) (v1 : Int32) (v2 : Int32) (H : Heap) (locs : List Loc) (ls : Array Slot), Pw s0 s E z h H locs → lv_has ls 3 [(0, .ref v0), (1, .int v1), (2, .int v2)] → k4 v0 v1 v2 = some r → W p l e (rmO 1 23) s m args below meth c H locs 0 0 (Zt below s0 E z h (some (.int r)) args s 0 0) (F0 m 4 ls [])) : ∀ (v0 : Nat) (v2 : Int32) (u0 : Int32) (u1 : Int32) (H : Heap) (locs : List Loc) (ls : Array Slot), Pw s0 s E z h H locs → lv_has ls 3 [(0, .ref v0), (2, .int v2)] → f_X5_drawn_30 n z h k4 v0 v2 u0 u1 = some r → W p l e (rmO 1 23) s m args below meth c H locs 0 0 (Zt below s0 E z h (some (.int r)) args s 0 0) (F0 m 30 ls [.int u0, .int u1]) := by
  have hx := B.1
  have hb := B.2.1
  intro v0 v2 u0 u1 H locs ls hw hl hf
  unfold f_X5_drawn_30 at hf
  refine lv_ior hx hb dX5_drawn_30 ?_
  obtain ⟨x1, e, hf⟩ := ob hf
  refine q_nmI e ?_
  refine lv_istore_n (lv' := [(1, .int x1), (0, .ref v0), (2, .int v2)]) hx hb dX5_drawn_31 rfl hl (by decide) rfl (fun ls hl => ?_)
  obtain ⟨x2, e, hf⟩ := ob hf
  refine lv_iinc (v := x2) (lv' := [(2, .int x2), (1, .int x1), (0, .ref v0)]) hx hb dX5_drawn_32 hl (k := 2) rfl (Option.some.inj e) (by decide) rfl (fun ls hl => ?_)
  refine lv_goto (tgt := 4) hx hb dX5_drawn_35 (by decide) ?_
  exact hk4 v0 x1 x2 _ _ _ hw (lv_sub hl [2, 1, 0] rfl) hf
set_option maxHeartbeats 4000000 in
theorem w_X5_drawn_4 {p : Program} {l : Launch} {e : Env} {s : State} {m : MethodId} {args : Array Value} {below : List Frame} {meth : Method} {c : Code} {s0 : State} {E : Ev} {z : Sh} {h : Hp} {n : Nat} {r : Int32} (G : Gl s0 E) (B : Bd p s0 s E m c cX5_drawn 3 RX5) (hz : s0.heap.size ≤ z.sz) (hc0 : s.heap.size + 0 = z.sz) (hr : meth.sig.returnType = (some .int)) (hlk : meth.locks = false) : ∀ (i : Nat), ∀ (v0 : Nat) (v1 : Int32) (v2 : Int32) (H : Heap) (locs : List Loc) (ls : Array Slot), Pw s0 s E z h H locs → lv_has ls 3 [(0, .ref v0), (1, .int v1), (2, .int v2)] → f_X5_drawn_4 n z h i v0 v1 v2 = some r → W p l e (rmO 1 23) s m args below meth c H locs 0 0 (Zt below s0 E z h (some (.int r)) args s 0 0) (F0 m 4 ls []) := by
  have hx := B.1
  have hb := B.2.1
  intro i
  induction i with
  | zero =>
    intro v0 v1 v2 H locs ls hw hl hf
    have hf := (f_X5_drawn_4.eq_1 ..).symm.trans hf
    cases hf
  | succ i ih =>
    intro v0 v1 v2 H locs ls hw hl hf
    have hf := (f_X5_drawn_4.eq_2 ..).symm.trans hf
    refine lv_iload_n hx hb dX5_drawn_4 rfl (lv_at hl 2 rfl) ?_
    refine lv_aload_n hx hb dX5_drawn_5 rfl (lv_at hl 0 rfl) ?_
    obtain ⟨x1, e, hf⟩ := ob hf
    refine q_getI e B hw fd_5_1.1 fd_5_1.2.1 fd_5_1.2.2.1 fd_5_1.2.2.2.1 fd_5_1.2.2.2.2 rfl tw_1_151 dX5_drawn_6 ?_
    refine lv_icmp_ge (tgt := 38) hx hb dX5_drawn_9 (by decide) (fun c2 => ?_) (fun c2 => ?_)
    · have hf := (if_pos c2).symm.trans hf
      refine lv_iload_n hx hb dX5_drawn_38 rfl (lv_at hl 1 rfl) ?_
      obtain rfl := so hf
      exact q_iret B hw hz hc0 hr hlk dX5_drawn_39
    · have hf := (if_neg c2).symm.trans hf
      refine lv_iload_n hx hb dX5_drawn_12 rfl (lv_at hl 1 rfl) ?_
      refine lv_aload_n hx hb dX5_drawn_13 rfl (lv_at hl 0 rfl) ?_
      refine lv_iload_n hx hb dX5_drawn_14 rfl (lv_at hl 2 rfl) ?_
      refine lv_iconst (v := 1) hx hb dX5_drawn_15 (by decide) ?_
      obtain ⟨x3, e, hf⟩ := ob hf
      refine q_callV (As := [.int v2, .int 1]) (rest := [.int v1]) (st1 := [.int x3, .int v1]) (c_X5_part G e) B hw hz hc0 (k_X5_part e) (by decide) (ci := 5) rfl rfl my_X5_part mv_X5_part tw_4_123 ⟨Nat.le_of_ble_eq_true rfl, Nat.le_of_ble_eq_true rfl⟩ ⟨Nat.zero_le _, Nat.zero_le _⟩ rfl hl.1 rfl rfl (Nat.le_of_ble_eq_true rfl) dX5_drawn_16 (fun H locs hw => ?_)
      refine lv_iconst (v := 2) hx hb dX5_drawn_19 (by decide) ?_
      refine lv_icmp_ne (tgt := 29) hx hb dX5_drawn_20 (by decide) (fun c4 => ?_) (fun c4 => ?_)
      · have hf := (if_neg c4).symm.trans hf
        refine lv_iconst (v := 0) hx hb dX5_drawn_29 (by decide) ?_
        exact w_X5_drawn_30 G B hz hc0 hr hlk ih v0 v2 0 v1 _ _ _ hw (lv_sub hl [0, 2] rfl) hf
      · have hf := (if_pos c4).symm.trans hf
        refine lv_iconst (v := 1) hx hb dX5_drawn_23 (by decide) ?_
        refine lv_iload_n hx hb dX5_drawn_24 rfl (lv_at hl 2 rfl) ?_
        refine lv_ishl hx hb dX5_drawn_25 ?_
        refine lv_goto (tgt := 30) hx hb dX5_drawn_26 (by decide) ?_
        exact w_X5_drawn_30 G B hz hc0 hr hlk ih v0 v2 ((1 : Int32) <<< (v2 &&& 31)) v1 _ _ _ hw (lv_sub hl [0, 2] rfl) hf
set_option maxHeartbeats 4000000 in
theorem c_X5_drawn {l : Launch} {s0 : State} {E : Ev} (G : Gl s0 E) {n : Nat} {z : Sh} {h : Hp} {v0 : Nat} {r : Int32} (hf : f_X5_drawn n z h v0 = some r) : Ct l s0 E yX5_drawn cX5_drawn 3 (some .int) 1 23 [.ref v0] z h h (some (.int r)) := by
  refine Ct.of G (by decide) (Nat.le_of_ble_eq_true rfl) ?_
  intro p e s m below meth c ls B hw hz hc0 hr hlk hl
  have B : Bd p s0 s E m c cX5_drawn 3 RX5 := B
  have hx := B.1
  have hb := B.2.1
  have hl : lv_has ls 3 [(0, .ref v0)] := hl
  unfold f_X5_drawn at hf
  obtain ⟨_, hf⟩ := if_some hf
  refine lv_iconst (v := 0) hx hb dX5_drawn_0 (by decide) ?_
  refine lv_istore_n (lv' := [(1, .int 0), (0, .ref v0)]) hx hb dX5_drawn_1 rfl hl (by decide) rfl (fun ls hl => ?_)
  refine lv_iconst (v := 0) hx hb dX5_drawn_2 (by decide) ?_
  refine lv_istore_n (lv' := [(2, .int 0), (1, .int 0), (0, .ref v0)]) hx hb dX5_drawn_3 rfl hl (by decide) rfl (fun ls hl => ?_)
  exact w_X5_drawn_4 G B hz hc0 hr hlk  n v0 0 0 _ _ _ hw (lv_sub hl [2, 1, 0] rfl) hf
/-! SecondLife$People.pledged()I -/
def f_X5_pledged_30 (n : Nat) (z : Sh) (h : Hp) (k4 : Nat → Int32 → Int32 → Option (Int32)) (v0 : Nat) (v2 : Int32) (u0 : Int32) (u1 : Int32) : Option (Int32) :=
  (some (u1 ||| u0)).bind fun x1 =>
  (some (v2 + 1)).bind fun x2 =>
  k4 v0 x1 x2
def f_X5_pledged_4 (n : Nat) (z : Sh) (h : Hp) : Nat → Nat → Int32 → Int32 → Option (Int32)
  | 0, _, _, _ => none
  | i + 1, v0, v1, v2 =>
    (gI z h 5 v0 1).bind fun x1 =>
    if x1 ≤ v2 then
      some v1
    else
      (f_X5_part z h v0 v2 8).bind fun x3 =>
      if x3 ≤ 0 then
        f_X5_pledged_30 n z h (f_X5_pledged_4 n z h i) v0 v2 0 v1
      else
        f_X5_pledged_30 n z h (f_X5_pledged_4 n z h i) v0 v2 ((1 : Int32) <<< (v2 &&& 31)) v1
def f_X5_pledged (n : Nat) (z : Sh) (h : Hp) (v0 : Nat) : Option (Int32) :=
  if z.K v0 = 5 then
    f_X5_pledged_4 n z h n v0 0 0
  else none
theorem k_X5_pledged {n : Nat} {z : Sh} {h : Hp} {v0 : Nat} {w : Int32} (hf : f_X5_pledged n z h v0 = some w) : z.K v0 = 5 := by
  unfold f_X5_pledged at hf
  exact (if_some hf).1
set_option maxHeartbeats 4000000 in
theorem w_X5_pledged_30 {p : Program} {l : Launch} {e : Env} {s : State} {m : MethodId} {args : Array Value} {below : List Frame} {meth : Method} {c : Code} {s0 : State} {E : Ev} {z : Sh} {h : Hp} {n : Nat} {k4 : Nat → Int32 → Int32 → Option (Int32)} {r : Int32} (G : Gl s0 E) (B : Bd p s0 s E m c cX5_pledged 3 RX5) (hz : s0.heap.size ≤ z.sz) (hc0 : s.heap.size + 0 = z.sz) (hr : meth.sig.returnType = (some .int)) (hlk : meth.locks = false) (hk4 : ∀ (v0 : Nat) (v1 : Int32) (v2 : Int32) (H : Heap) (locs : List Loc) (ls : Array Slot), Pw s0 s E z h H locs → lv_has ls 3 [(0, .ref v0), (1, .int v1), (2, .int v2)] → k4 v0 v1 v2 = some r → W p l e (rmO 1 23) s m args below meth c H locs 0 0 (Zt below s0 E z h (some (.int r)) args s 0 0) (F0 m 4 ls [])) : ∀ (v0 : Nat) (v2 : Int32) (u0 : Int32) (u1 : Int32) (H : Heap) (locs : List Loc) (ls : Array Slot), Pw s0 s E z h H locs → lv_has ls 3 [(0, .ref v0), (2, .int v2)] → f_X5_pledged_30 n z h k4 v0 v2 u0 u1 = some r → W p l e (rmO 1 23) s m args below meth c H locs 0 0 (Zt below s0 E z h (some (.int r)) args s 0 0) (F0 m 30 ls [.int u0, .int u1]) := by
  have hx := B.1
  have hb := B.2.1
  intro v0 v2 u0 u1 H locs ls hw hl hf
  unfold f_X5_pledged_30 at hf
  refine lv_ior hx hb dX5_pledged_30 ?_
  obtain ⟨x1, e, hf⟩ := ob hf
  refine q_nmI e ?_
  refine lv_istore_n (lv' := [(1, .int x1), (0, .ref v0), (2, .int v2)]) hx hb dX5_pledged_31 rfl hl (by decide) rfl (fun ls hl => ?_)
  obtain ⟨x2, e, hf⟩ := ob hf
  refine lv_iinc (v := x2) (lv' := [(2, .int x2), (1, .int x1), (0, .ref v0)]) hx hb dX5_pledged_32 hl (k := 2) rfl (Option.some.inj e) (by decide) rfl (fun ls hl => ?_)
  refine lv_goto (tgt := 4) hx hb dX5_pledged_35 (by decide) ?_
  exact hk4 v0 x1 x2 _ _ _ hw (lv_sub hl [2, 1, 0] rfl) hf
set_option maxHeartbeats 4000000 in
theorem w_X5_pledged_4 {p : Program} {l : Launch} {e : Env} {s : State} {m : MethodId} {args : Array Value} {below : List Frame} {meth : Method} {c : Code} {s0 : State} {E : Ev} {z : Sh} {h : Hp} {n : Nat} {r : Int32} (G : Gl s0 E) (B : Bd p s0 s E m c cX5_pledged 3 RX5) (hz : s0.heap.size ≤ z.sz) (hc0 : s.heap.size + 0 = z.sz) (hr : meth.sig.returnType = (some .int)) (hlk : meth.locks = false) : ∀ (i : Nat), ∀ (v0 : Nat) (v1 : Int32) (v2 : Int32) (H : Heap) (locs : List Loc) (ls : Array Slot), Pw s0 s E z h H locs → lv_has ls 3 [(0, .ref v0), (1, .int v1), (2, .int v2)] → f_X5_pledged_4 n z h i v0 v1 v2 = some r → W p l e (rmO 1 23) s m args below meth c H locs 0 0 (Zt below s0 E z h (some (.int r)) args s 0 0) (F0 m 4 ls []) := by
  have hx := B.1
  have hb := B.2.1
  intro i
  induction i with
  | zero =>
    intro v0 v1 v2 H locs ls hw hl hf
    have hf := (f_X5_pledged_4.eq_1 ..).symm.trans hf
    cases hf
  | succ i ih =>
    intro v0 v1 v2 H locs ls hw hl hf
    have hf := (f_X5_pledged_4.eq_2 ..).symm.trans hf
    refine lv_iload_n hx hb dX5_pledged_4 rfl (lv_at hl 2 rfl) ?_
    refine lv_aload_n hx hb dX5_pledged_5 rfl (lv_at hl 0 rfl) ?_
    obtain ⟨x1, e, hf⟩ := ob hf
    refine q_getI e B hw fd_5_1.1 fd_5_1.2.1 fd_5_1.2.2.1 fd_5_1.2.2.2.1 fd_5_1.2.2.2.2 rfl tw_1_151 dX5_pledged_6 ?_
    refine lv_icmp_ge (tgt := 38) hx hb dX5_pledged_9 (by decide) (fun c2 => ?_) (fun c2 => ?_)
    · have hf := (if_pos c2).symm.trans hf
      refine lv_iload_n hx hb dX5_pledged_38 rfl (lv_at hl 1 rfl) ?_
      obtain rfl := so hf
      exact q_iret B hw hz hc0 hr hlk dX5_pledged_39
    · have hf := (if_neg c2).symm.trans hf
      refine lv_iload_n hx hb dX5_pledged_12 rfl (lv_at hl 1 rfl) ?_
      refine lv_aload_n hx hb dX5_pledged_13 rfl (lv_at hl 0 rfl) ?_
      refine lv_iload_n hx hb dX5_pledged_14 rfl (lv_at hl 2 rfl) ?_
      refine lv_bipush (v := 8) hx hb dX5_pledged_15 (by decide) ?_
      obtain ⟨x3, e, hf⟩ := ob hf
      refine q_callV (As := [.int v2, .int 8]) (rest := [.int v1]) (st1 := [.int x3, .int v1]) (c_X5_part G e) B hw hz hc0 (k_X5_part e) (by decide) (ci := 5) rfl rfl my_X5_part mv_X5_part tw_4_123 ⟨Nat.le_of_ble_eq_true rfl, Nat.le_of_ble_eq_true rfl⟩ ⟨Nat.zero_le _, Nat.zero_le _⟩ rfl hl.1 rfl rfl (Nat.le_of_ble_eq_true rfl) dX5_pledged_17 (fun H locs hw => ?_)
      refine lv_if_le (tgt := 29) hx hb dX5_pledged_20 (by decide) (fun c4 => ?_) (fun c4 => ?_)
      · have hf := (if_pos c4).symm.trans hf
        refine lv_iconst (v := 0) hx hb dX5_pledged_29 (by decide) ?_
        exact w_X5_pledged_30 G B hz hc0 hr hlk ih v0 v2 0 v1 _ _ _ hw (lv_sub hl [0, 2] rfl) hf
      · have hf := (if_neg c4).symm.trans hf
        refine lv_iconst (v := 1) hx hb dX5_pledged_23 (by decide) ?_
        refine lv_iload_n hx hb dX5_pledged_24 rfl (lv_at hl 2 rfl) ?_
        refine lv_ishl hx hb dX5_pledged_25 ?_
        refine lv_goto (tgt := 30) hx hb dX5_pledged_26 (by decide) ?_
        exact w_X5_pledged_30 G B hz hc0 hr hlk ih v0 v2 ((1 : Int32) <<< (v2 &&& 31)) v1 _ _ _ hw (lv_sub hl [0, 2] rfl) hf
set_option maxHeartbeats 4000000 in
theorem c_X5_pledged {l : Launch} {s0 : State} {E : Ev} (G : Gl s0 E) {n : Nat} {z : Sh} {h : Hp} {v0 : Nat} {r : Int32} (hf : f_X5_pledged n z h v0 = some r) : Ct l s0 E yX5_pledged cX5_pledged 3 (some .int) 1 23 [.ref v0] z h h (some (.int r)) := by
  refine Ct.of G (by decide) (Nat.le_of_ble_eq_true rfl) ?_
  intro p e s m below meth c ls B hw hz hc0 hr hlk hl
  have B : Bd p s0 s E m c cX5_pledged 3 RX5 := B
  have hx := B.1
  have hb := B.2.1
  have hl : lv_has ls 3 [(0, .ref v0)] := hl
  unfold f_X5_pledged at hf
  obtain ⟨_, hf⟩ := if_some hf
  refine lv_iconst (v := 0) hx hb dX5_pledged_0 (by decide) ?_
  refine lv_istore_n (lv' := [(1, .int 0), (0, .ref v0)]) hx hb dX5_pledged_1 rfl hl (by decide) rfl (fun ls hl => ?_)
  refine lv_iconst (v := 0) hx hb dX5_pledged_2 (by decide) ?_
  refine lv_istore_n (lv' := [(2, .int 0), (1, .int 0), (0, .ref v0)]) hx hb dX5_pledged_3 rfl hl (by decide) rfl (fun ls hl => ?_)
  exact w_X5_pledged_4 G B hz hc0 hr hlk  n v0 0 0 _ _ _ hw (lv_sub hl [2, 1, 0] rfl) hf
/-! SecondLife$People.everybody()I -/
def f_X5_everybody (z : Sh) (h : Hp) (v0 : Nat) : Option (Int32) :=
  if z.K v0 = 5 then
    (gI z h 5 v0 1).bind fun x1 =>
    some (((1 : Int32) <<< (x1 &&& 31)) - 1)
  else none
theorem k_X5_everybody {z : Sh} {h : Hp} {v0 : Nat} {w : Int32} (hf : f_X5_everybody z h v0 = some w) : z.K v0 = 5 := by
  unfold f_X5_everybody at hf
  exact (if_some hf).1
set_option maxHeartbeats 4000000 in
theorem c_X5_everybody {l : Launch} {s0 : State} {E : Ev} (G : Gl s0 E) {z : Sh} {h : Hp} {v0 : Nat} {r : Int32} (hf : f_X5_everybody z h v0 = some r) : Ct l s0 E yX5_everybody cX5_everybody 1 (some .int) 0 0 [.ref v0] z h h (some (.int r)) := by
  refine Ct.of G (by decide) (Nat.le_of_ble_eq_true rfl) ?_
  intro p e s m below meth c ls B hw hz hc0 hr hlk hl
  have B : Bd p s0 s E m c cX5_everybody 1 RX5 := B
  have hx := B.1
  have hb := B.2.1
  have hl : lv_has ls 1 [(0, .ref v0)] := hl
  unfold f_X5_everybody at hf
  obtain ⟨_, hf⟩ := if_some hf
  refine lv_iconst (v := 1) hx hb dX5_everybody_0 (by decide) ?_
  refine lv_aload_n hx hb dX5_everybody_1 rfl (lv_at hl 0 rfl) ?_
  obtain ⟨x1, e, hf⟩ := ob hf
  refine q_getI e B hw fd_5_1.1 fd_5_1.2.1 fd_5_1.2.2.1 fd_5_1.2.2.2.1 fd_5_1.2.2.2.2 rfl tw_1_151 dX5_everybody_2 ?_
  refine lv_ishl hx hb dX5_everybody_5 ?_
  refine lv_iconst (v := 1) hx hb dX5_everybody_6 (by decide) ?_
  refine lv_isub hx hb dX5_everybody_7 ?_
  obtain rfl := so hf
  exact q_iret B hw hz hc0 hr hlk dX5_everybody_8
/-! SecondLife$People.isSet(I)Z -/
def f_X5_isSet (z : Sh) (h : Hp) (v0 : Nat) (v1 : Int32) : Option (Int32) :=
  if z.K v0 = 5 then
    (f_X5_everybody z h v0).bind fun x1 =>
    if (v1 &&& (x1 ^^^ (-1))) = 0 then
      some 1
    else
      some 0
  else none
theorem k_X5_isSet {z : Sh} {h : Hp} {v0 : Nat} {v1 : Int32} {w : Int32} (hf : f_X5_isSet z h v0 v1 = some w) : z.K v0 = 5 := by
  unfold f_X5_isSet at hf
  exact (if_some hf).1
set_option maxHeartbeats 4000000 in
theorem c_X5_isSet {l : Launch} {s0 : State} {E : Ev} (G : Gl s0 E) {z : Sh} {h : Hp} {v0 : Nat} {v1 : Int32} {r : Int32} (hf : f_X5_isSet z h v0 v1 = some r) : Ct l s0 E yX5_isSet cX5_isSet 2 (some .boolean) 1 20 [.ref v0, .int v1] z h h (some (.int r)) := by
  refine Ct.of G (by decide) (Nat.le_of_ble_eq_true rfl) ?_
  intro p e s m below meth c ls B hw hz hc0 hr hlk hl
  have B : Bd p s0 s E m c cX5_isSet 2 RX5 := B
  have hx := B.1
  have hb := B.2.1
  have hl : lv_has ls 2 [(0, .ref v0), (1, .int v1)] := hl
  unfold f_X5_isSet at hf
  obtain ⟨_, hf⟩ := if_some hf
  refine lv_iload_n hx hb dX5_isSet_0 rfl (lv_at hl 1 rfl) ?_
  refine lv_aload_n hx hb dX5_isSet_1 rfl (lv_at hl 0 rfl) ?_
  obtain ⟨x1, e, hf⟩ := ob hf
  refine q_callV (As := []) (rest := [.int v1]) (st1 := [.int x1, .int v1]) (c_X5_everybody G e) B hw hz hc0 (k_X5_everybody e) (by decide) (ci := 5) rfl rfl my_X5_everybody mv_X5_everybody tw_5_177 ⟨Nat.le_of_ble_eq_true rfl, Nat.le_of_ble_eq_true rfl⟩ ⟨Nat.zero_le _, Nat.zero_le _⟩ rfl hl.1 rfl rfl (Nat.le_of_ble_eq_true rfl) dX5_isSet_2 (fun H locs hw => ?_)
  refine lv_iconst (v := (-1)) hx hb dX5_isSet_5 (by decide) ?_
  refine lv_ixor hx hb dX5_isSet_6 ?_
  refine lv_iand hx hb dX5_isSet_7 ?_
  refine lv_if_ne (tgt := 15) hx hb dX5_isSet_8 (by decide) (fun c2 => ?_) (fun c2 => ?_)
  · have hf := (if_neg c2).symm.trans hf
    refine lv_iconst (v := 0) hx hb dX5_isSet_15 (by decide) ?_
    obtain rfl := so hf
    exact q_zret (Or.inl rfl) B hw hz hc0 hr hlk dX5_isSet_16
  · have hf := (if_pos c2).symm.trans hf
    refine lv_iconst (v := 1) hx hb dX5_isSet_11 (by decide) ?_
    refine lv_goto (tgt := 16) hx hb dX5_isSet_12 (by decide) ?_
    obtain rfl := so hf
    exact q_zret (Or.inr rfl) B hw hz hc0 hr hlk dX5_isSet_16
/-! SecondLife$Reader.emit(I)V -/
def f_X6_emit (z : Sh) (h : Hp) (v0 : Nat) (v1 : Int32) : Option (Hp) :=
  if z.K v0 = 6 then
    (gI z h 6 v0 11).bind fun x1 =>
    (gR z h 6 v0 10).bind fun a2 =>
    (aL z a2).bind fun x3 =>
    if x3 ≤ x1 then
      some h
    else
      (gR z h 6 v0 10).bind fun a5 =>
      (gI z h 6 v0 11).bind fun x6 =>
      (stI z h a5 x6 v1).bind fun h7 =>
      (gI z h7 6 v0 11).bind fun x8 =>
      (pI z h7 6 v0 11 (x8 + 1)).bind fun h9 =>
      some h9
  else none
theorem k_X6_emit {z : Sh} {h : Hp} {v0 : Nat} {v1 : Int32} {w : Hp} (hf : f_X6_emit z h v0 v1 = some w) : z.K v0 = 6 := by
  unfold f_X6_emit at hf
  exact (if_some hf).1
set_option maxHeartbeats 4000000 in
theorem c_X6_emit {l : Launch} {s0 : State} {E : Ev} (G : Gl s0 E) {z : Sh} {h : Hp} {v0 : Nat} {v1 : Int32} {h' : Hp} (hf : f_X6_emit z h v0 v1 = some h') : Ct l s0 E yX6_emit cX6_emit 2 none 0 0 [.ref v0, .int v1] z h h' (none) := by
  refine Ct.of G (by decide) (Nat.le_of_ble_eq_true rfl) ?_
  intro p e s m below meth c ls B hw hz hc0 hr hlk hl
  have B : Bd p s0 s E m c cX6_emit 2 RX6 := B
  have hx := B.1
  have hb := B.2.1
  have hl : lv_has ls 2 [(0, .ref v0), (1, .int v1)] := hl
  unfold f_X6_emit at hf
  obtain ⟨_, hf⟩ := if_some hf
  refine lv_aload_n hx hb dX6_emit_0 rfl (lv_at hl 0 rfl) ?_
  obtain ⟨x1, e, hf⟩ := ob hf
  refine q_getI e B hw fd_6_11.1 fd_6_11.2.1 fd_6_11.2.2.1 fd_6_11.2.2.2.1 fd_6_11.2.2.2.2 rfl tw_1_116 dX6_emit_1 ?_
  refine lv_aload_n hx hb dX6_emit_4 rfl (lv_at hl 0 rfl) ?_
  obtain ⟨a2, e, hf⟩ := ob hf
  refine q_getR e B hw fd_6_10.1 fd_6_10.2.1 fd_6_10.2.2.1 fd_6_10.2.2.2.1 fd_6_10.2.2.2.2 rfl tw_1_115 dX6_emit_5 ?_
  obtain ⟨x3, e, hf⟩ := ob hf
  refine q_len e B hw dX6_emit_8 ?_
  refine lv_icmp_ge (tgt := 32) hx hb dX6_emit_9 (by decide) (fun c4 => ?_) (fun c4 => ?_)
  · have hf := (if_pos c4).symm.trans hf
    obtain rfl := so hf
    exact q_vret B hw hz hc0 hr hlk dX6_emit_32
  · have hf := (if_neg c4).symm.trans hf
    refine lv_aload_n hx hb dX6_emit_12 rfl (lv_at hl 0 rfl) ?_
    obtain ⟨a5, e, hf⟩ := ob hf
    refine q_getR e B hw fd_6_10.1 fd_6_10.2.1 fd_6_10.2.2.1 fd_6_10.2.2.2.1 fd_6_10.2.2.2.2 rfl tw_1_115 dX6_emit_13 ?_
    refine lv_aload_n hx hb dX6_emit_16 rfl (lv_at hl 0 rfl) ?_
    obtain ⟨x6, e, hf⟩ := ob hf
    refine q_getI e B hw fd_6_11.1 fd_6_11.2.1 fd_6_11.2.2.1 fd_6_11.2.2.2.1 fd_6_11.2.2.2.2 rfl tw_1_116 dX6_emit_17 ?_
    refine lv_iload_n hx hb dX6_emit_20 rfl (lv_at hl 1 rfl) ?_
    obtain ⟨h7, e, hf⟩ := ob hf
    refine q_stI e B hw dX6_emit_21 (fun H locs hw => ?_)
    refine lv_aload_n hx hb dX6_emit_22 rfl (lv_at hl 0 rfl) ?_
    refine lv_dup hx hb dX6_emit_23 rfl ?_
    obtain ⟨x8, e, hf⟩ := ob hf
    refine q_getI e B hw fd_6_11.1 fd_6_11.2.1 fd_6_11.2.2.1 fd_6_11.2.2.2.1 fd_6_11.2.2.2.2 rfl tw_1_116 dX6_emit_24 ?_
    refine lv_iconst (v := 1) hx hb dX6_emit_27 (by decide) ?_
    refine lv_iadd hx hb dX6_emit_28 ?_
    obtain ⟨h9, e, hf⟩ := ob hf
    refine q_putI e B hw fd_6_11.1 fd_6_11.2.1 fd_6_11.2.2.1 fd_6_11.2.2.2.1 fd_6_11.2.2.2.2 rfl rfl (tyX6_ok 11 (by decide)) tyX6 tyX6_ok nmX6 tw_1_116 dX6_emit_29 (fun H locs hw => ?_)
    obtain rfl := so hf
    exact q_vret B hw hz hc0 hr hlk dX6_emit_32
/-! SecondLife$Reader.wrong(I)Z -/
def f_X6_wrong_21 (z : Sh) (h : Hp) (v0 : Nat) (u0 : Int32) (u1 : Nat) : Option (Int32 × Hp) :=
  (pI z h 6 u1 0 u0).bind fun h1 =>
  (gI z h1 6 v0 4).bind fun x2 =>
  (pI z h1 6 v0 1 x2).bind fun h3 =>
  some (0, h3)
def f_X6_wrong (z : Sh) (h : Hp) (v0 : Nat) (v1 : Int32) : Option (Int32 × Hp) :=
  if z.K v0 = 6 then
    (gI z h 6 v0 0).bind fun x1 =>
    if x1 = 0 then
      (gI z h 6 v0 6).bind fun x3 =>
      if x3 = 4 then
        f_X6_wrong_21 z h v0 1 v0
      else
        f_X6_wrong_21 z h v0 v1 v0
    else
      some (0, h)
  else none
theorem k_X6_wrong {z : Sh} {h : Hp} {v0 : Nat} {v1 : Int32} {w : Int32 × Hp} (hf : f_X6_wrong z h v0 v1 = some w) : z.K v0 = 6 := by
  unfold f_X6_wrong at hf
  exact (if_some hf).1
set_option maxHeartbeats 4000000 in
theorem w_X6_wrong_21 {p : Program} {l : Launch} {e : Env} {s : State} {m : MethodId} {args : Array Value} {below : List Frame} {meth : Method} {c : Code} {s0 : State} {E : Ev} {z : Sh} {r : Int32} {h' : Hp} (G : Gl s0 E) (B : Bd p s0 s E m c cX6_wrong 2 RX6) (hz : s0.heap.size ≤ z.sz) (hc0 : s.heap.size + 0 = z.sz) (hr : meth.sig.returnType = (some .boolean)) (hlk : meth.locks = false) : ∀ (h : Hp) (v0 : Nat) (u0 : Int32) (u1 : Nat) (H : Heap) (locs : List Loc) (ls : Array Slot), Pw s0 s E z h H locs → lv_has ls 2 [(0, .ref v0)] → f_X6_wrong_21 z h v0 u0 u1 = some (r, h') → W p l e (rmO 0 0) s m args below meth c H locs 0 0 (Zt below s0 E z h' (some (.int r)) args s 0 0) (F0 m 21 ls [.int u0, .ref u1]) := by
  have hx := B.1
  have hb := B.2.1
  intro h v0 u0 u1 H locs ls hw hl hf
  unfold f_X6_wrong_21 at hf
  obtain ⟨h1, e, hf⟩ := ob hf
  refine q_putI e B hw fd_6_0.1 fd_6_0.2.1 fd_6_0.2.2.1 fd_6_0.2.2.2.1 fd_6_0.2.2.2.2 rfl rfl (tyX6_ok 0 (by decide)) tyX6 tyX6_ok nmX6 tw_1_103 dX6_wrong_21 (fun H locs hw => ?_)
  refine lv_aload_n hx hb dX6_wrong_24 rfl (lv_at hl 0 rfl) ?_
  refine lv_aload_n hx hb dX6_wrong_25 rfl (lv_at hl 0 rfl) ?_
  obtain ⟨x2, e, hf⟩ := ob hf
  refine q_getI e B hw fd_6_4.1 fd_6_4.2.1 fd_6_4.2.2.1 fd_6_4.2.2.2.1 fd_6_4.2.2.2.2 rfl tw_1_109 dX6_wrong_26 ?_
  obtain ⟨h3, e, hf⟩ := ob hf
  refine q_putI e B hw fd_6_1.1 fd_6_1.2.1 fd_6_1.2.2.1 fd_6_1.2.2.2.1 fd_6_1.2.2.2.2 rfl rfl (tyX6_ok 1 (by decide)) tyX6 tyX6_ok nmX6 tw_1_105 dX6_wrong_29 (fun H locs hw => ?_)
  refine lv_iconst (v := 0) hx hb dX6_wrong_32 (by decide) ?_
  obtain ⟨rfl, rfl⟩ := so2 hf
  exact q_zret (Or.inl rfl) B hw hz hc0 hr hlk dX6_wrong_33
set_option maxHeartbeats 4000000 in
theorem c_X6_wrong {l : Launch} {s0 : State} {E : Ev} (G : Gl s0 E) {z : Sh} {h : Hp} {v0 : Nat} {v1 : Int32} {r : Int32} {h' : Hp} (hf : f_X6_wrong z h v0 v1 = some (r, h')) : Ct l s0 E yX6_wrong cX6_wrong 2 (some .boolean) 0 0 [.ref v0, .int v1] z h h' (some (.int r)) := by
  refine Ct.of G (by decide) (Nat.le_of_ble_eq_true rfl) ?_
  intro p e s m below meth c ls B hw hz hc0 hr hlk hl
  have B : Bd p s0 s E m c cX6_wrong 2 RX6 := B
  have hx := B.1
  have hb := B.2.1
  have hl : lv_has ls 2 [(0, .ref v0), (1, .int v1)] := hl
  unfold f_X6_wrong at hf
  obtain ⟨_, hf⟩ := if_some hf
  refine lv_aload_n hx hb dX6_wrong_0 rfl (lv_at hl 0 rfl) ?_
  obtain ⟨x1, e, hf⟩ := ob hf
  refine q_getI e B hw fd_6_0.1 fd_6_0.2.1 fd_6_0.2.2.1 fd_6_0.2.2.2.1 fd_6_0.2.2.2.2 rfl tw_1_103 dX6_wrong_1 ?_
  refine lv_if_ne (tgt := 32) hx hb dX6_wrong_4 (by decide) (fun c2 => ?_) (fun c2 => ?_)
  · have hf := (if_neg c2).symm.trans hf
    refine lv_iconst (v := 0) hx hb dX6_wrong_32 (by decide) ?_
    obtain ⟨rfl, rfl⟩ := so2 hf
    exact q_zret (Or.inl rfl) B hw hz hc0 hr hlk dX6_wrong_33
  · have hf := (if_pos c2).symm.trans hf
    refine lv_aload_n hx hb dX6_wrong_7 rfl (lv_at hl 0 rfl) ?_
    refine lv_aload_n hx hb dX6_wrong_8 rfl (lv_at hl 0 rfl) ?_
    obtain ⟨x3, e, hf⟩ := ob hf
    refine q_getI e B hw fd_6_6.1 fd_6_6.2.1 fd_6_6.2.2.1 fd_6_6.2.2.2.1 fd_6_6.2.2.2.2 rfl tw_1_111 dX6_wrong_9 ?_
    refine lv_iconst (v := 4) hx hb dX6_wrong_12 (by decide) ?_
    refine lv_icmp_ne (tgt := 20) hx hb dX6_wrong_13 (by decide) (fun c4 => ?_) (fun c4 => ?_)
    · have hf := (if_neg c4).symm.trans hf
      refine lv_iload_n hx hb dX6_wrong_20 rfl (lv_at hl 1 rfl) ?_
      exact w_X6_wrong_21 G B hz hc0 hr hlk  h v0 v1 v0 _ _ _ hw (lv_sub hl [0] rfl) hf
    · have hf := (if_pos c4).symm.trans hf
      refine lv_iconst (v := 1) hx hb dX6_wrong_16 (by decide) ?_
      refine lv_goto (tgt := 21) hx hb dX6_wrong_17 (by decide) ?_
      exact w_X6_wrong_21 G B hz hc0 hr hlk  h v0 1 v0 _ _ _ hw (lv_sub hl [0] rfl) hf
/-! SecondLife$Reader.byteAt(I)I -/
def f_X6_byteAt (z : Sh) (h : Hp) (v0 : Nat) (v1 : Int32) : Option (Int32) :=
  if z.K v0 = 6 then
    if v1 < 0 then
      some (0 : Int32)
    else
      (gR z h 6 v0 2).bind fun a2 =>
      (aL z a2).bind fun x3 =>
      if x3 ≤ v1 then
        some (0 : Int32)
      else
        (gR z h 6 v0 2).bind fun a5 =>
        (ldB z h a5 v1).bind fun x6 =>
        some (x6 &&& 255)
  else none
theorem k_X6_byteAt {z : Sh} {h : Hp} {v0 : Nat} {v1 : Int32} {w : Int32} (hf : f_X6_byteAt z h v0 v1 = some w) : z.K v0 = 6 := by
  unfold f_X6_byteAt at hf
  exact (if_some hf).1
set_option maxHeartbeats 4000000 in
theorem c_X6_byteAt {l : Launch} {s0 : State} {E : Ev} (G : Gl s0 E) {z : Sh} {h : Hp} {v0 : Nat} {v1 : Int32} {r : Int32} (hf : f_X6_byteAt z h v0 v1 = some r) : Ct l s0 E yX6_byteAt cX6_byteAt 2 (some .int) 0 0 [.ref v0, .int v1] z h h (some (.int r)) := by
  refine Ct.of G (by decide) (Nat.le_of_ble_eq_true rfl) ?_
  intro p e s m below meth c ls B hw hz hc0 hr hlk hl
  have B : Bd p s0 s E m c cX6_byteAt 2 RX6 := B
  have hx := B.1
  have hb := B.2.1
  have hl : lv_has ls 2 [(0, .ref v0), (1, .int v1)] := hl
  unfold f_X6_byteAt at hf
  obtain ⟨_, hf⟩ := if_some hf
  refine lv_iload_n hx hb dX6_byteAt_0 rfl (lv_at hl 1 rfl) ?_
  refine lv_if_lt (tgt := 26) hx hb dX6_byteAt_1 (by decide) (fun c1 => ?_) (fun c1 => ?_)
  · have hf := (if_pos c1).symm.trans hf
    refine lv_iconst (v := 0) hx hb dX6_byteAt_26 (by decide) ?_
    obtain rfl := so hf
    exact q_iret B hw hz hc0 hr hlk dX6_byteAt_27
  · have hf := (if_neg c1).symm.trans hf
    refine lv_iload_n hx hb dX6_byteAt_4 rfl (lv_at hl 1 rfl) ?_
    refine lv_aload_n hx hb dX6_byteAt_5 rfl (lv_at hl 0 rfl) ?_
    obtain ⟨a2, e, hf⟩ := ob hf
    refine q_getR e B hw fd_6_2.1 fd_6_2.2.1 fd_6_2.2.2.1 fd_6_2.2.2.2.1 fd_6_2.2.2.2.2 rfl tw_1_107 dX6_byteAt_6 ?_
    obtain ⟨x3, e, hf⟩ := ob hf
    refine q_len e B hw dX6_byteAt_9 ?_
    refine lv_icmp_ge (tgt := 26) hx hb dX6_byteAt_10 (by decide) (fun c4 => ?_) (fun c4 => ?_)
    · have hf := (if_pos c4).symm.trans hf
      refine lv_iconst (v := 0) hx hb dX6_byteAt_26 (by decide) ?_
      obtain rfl := so hf
      exact q_iret B hw hz hc0 hr hlk dX6_byteAt_27
    · have hf := (if_neg c4).symm.trans hf
      refine lv_aload_n hx hb dX6_byteAt_13 rfl (lv_at hl 0 rfl) ?_
      obtain ⟨a5, e, hf⟩ := ob hf
      refine q_getR e B hw fd_6_2.1 fd_6_2.2.1 fd_6_2.2.2.1 fd_6_2.2.2.2.1 fd_6_2.2.2.2.2 rfl tw_1_107 dX6_byteAt_14 ?_
      refine lv_iload_n hx hb dX6_byteAt_17 rfl (lv_at hl 1 rfl) ?_
      obtain ⟨x6, e, hf⟩ := ob hf
      refine q_ldB e B hw dX6_byteAt_18 ?_
      refine lv_sipush (v := 255) hx hb dX6_byteAt_19 (by decide) ?_
      refine lv_iand hx hb dX6_byteAt_22 ?_
      refine lv_goto (tgt := 27) hx hb dX6_byteAt_23 (by decide) ?_
      obtain rfl := so hf
      exact q_iret B hw hz hc0 hr hlk dX6_byteAt_27
/-! SecondLife$Reader.isBlank(I)Z -/
def f_X6_isBlank (z : Sh) (h : Hp) (v0 : Int32) : Option (Int32) :=
  if v0 = 10 then
    some 1
  else
    if v0 = 32 then
      some 1
    else
      some 0
set_option maxHeartbeats 4000000 in
theorem c_X6_isBlank {l : Launch} {s0 : State} {E : Ev} (G : Gl s0 E) {z : Sh} {h : Hp} {v0 : Int32} {r : Int32} (hf : f_X6_isBlank z h v0 = some r) : Ct l s0 E yX6_isBlank cX6_isBlank 1 (some .boolean) 0 0 [.int v0] z h h (some (.int r)) := by
  refine Ct.of G (by decide) (Nat.le_of_ble_eq_true rfl) ?_
  intro p e s m below meth c ls B hw hz hc0 hr hlk hl
  have B : Bd p s0 s E m c cX6_isBlank 1 RX6 := B
  have hx := B.1
  have hb := B.2.1
  have hl : lv_has ls 1 [(0, .int v0)] := hl
  unfold f_X6_isBlank at hf
  refine lv_iload_n hx hb dX6_isBlank_0 rfl (lv_at hl 0 rfl) ?_
  refine lv_bipush (v := 10) hx hb dX6_isBlank_1 (by decide) ?_
  refine lv_icmp_eq (tgt := 12) hx hb dX6_isBlank_3 (by decide) (fun c1 => ?_) (fun c1 => ?_)
  · have hf := (if_pos c1).symm.trans hf
    refine lv_iconst (v := 1) hx hb dX6_isBlank_12 (by decide) ?_
    refine lv_goto (tgt := 17) hx hb dX6_isBlank_13 (by decide) ?_
    obtain rfl := so hf
    exact q_zret (Or.inr rfl) B hw hz hc0 hr hlk dX6_isBlank_17
  · have hf := (if_neg c1).symm.trans hf
    refine lv_iload_n hx hb dX6_isBlank_6 rfl (lv_at hl 0 rfl) ?_
    refine lv_bipush (v := 32) hx hb dX6_isBlank_7 (by decide) ?_
    refine lv_icmp_ne (tgt := 16) hx hb dX6_isBlank_9 (by decide) (fun c2 => ?_) (fun c2 => ?_)
    · have hf := (if_neg c2).symm.trans hf
      refine lv_iconst (v := 0) hx hb dX6_isBlank_16 (by decide) ?_
      obtain rfl := so hf
      exact q_zret (Or.inl rfl) B hw hz hc0 hr hlk dX6_isBlank_17
    · have hf := (if_pos c2).symm.trans hf
      refine lv_iconst (v := 1) hx hb dX6_isBlank_12 (by decide) ?_
      refine lv_goto (tgt := 17) hx hb dX6_isBlank_13 (by decide) ?_
      obtain rfl := so hf
      exact q_zret (Or.inr rfl) B hw hz hc0 hr hlk dX6_isBlank_17
/-! SecondLife$Reader.isLetter(I)Z -/
def f_X6_isLetter (z : Sh) (h : Hp) (v0 : Int32) : Option (Int32) :=
  if v0 < 97 then
    some 0
  else
    if 122 < v0 then
      some 0
    else
      some 1
set_option maxHeartbeats 4000000 in
theorem c_X6_isLetter {l : Launch} {s0 : State} {E : Ev} (G : Gl s0 E) {z : Sh} {h : Hp} {v0 : Int32} {r : Int32} (hf : f_X6_isLetter z h v0 = some r) : Ct l s0 E yX6_isLetter cX6_isLetter 1 (some .boolean) 0 0 [.int v0] z h h (some (.int r)) := by
  refine Ct.of G (by decide) (Nat.le_of_ble_eq_true rfl) ?_
  intro p e s m below meth c ls B hw hz hc0 hr hlk hl
  have B : Bd p s0 s E m c cX6_isLetter 1 RX6 := B
  have hx := B.1
  have hb := B.2.1
  have hl : lv_has ls 1 [(0, .int v0)] := hl
  unfold f_X6_isLetter at hf
  refine lv_iload_n hx hb dX6_isLetter_0 rfl (lv_at hl 0 rfl) ?_
  refine lv_bipush (v := 97) hx hb dX6_isLetter_1 (by decide) ?_
  refine lv_icmp_lt (tgt := 16) hx hb dX6_isLetter_3 (by decide) (fun c1 => ?_) (fun c1 => ?_)
  · have hf := (if_pos c1).symm.trans hf
    refine lv_iconst (v := 0) hx hb dX6_isLetter_16 (by decide) ?_
    obtain rfl := so hf
    exact q_zret (Or.inl rfl) B hw hz hc0 hr hlk dX6_isLetter_17
  · have hf := (if_neg c1).symm.trans hf
    refine lv_iload_n hx hb dX6_isLetter_6 rfl (lv_at hl 0 rfl) ?_
    refine lv_bipush (v := 122) hx hb dX6_isLetter_7 (by decide) ?_
    refine lv_icmp_gt (tgt := 16) hx hb dX6_isLetter_9 (by decide) (fun c2 => ?_) (fun c2 => ?_)
    · have hf := (if_pos c2).symm.trans hf
      refine lv_iconst (v := 0) hx hb dX6_isLetter_16 (by decide) ?_
      obtain rfl := so hf
      exact q_zret (Or.inl rfl) B hw hz hc0 hr hlk dX6_isLetter_17
    · have hf := (if_neg c2).symm.trans hf
      refine lv_iconst (v := 1) hx hb dX6_isLetter_12 (by decide) ?_
      refine lv_goto (tgt := 17) hx hb dX6_isLetter_13 (by decide) ?_
      obtain rfl := so hf
      exact q_zret (Or.inr rfl) B hw hz hc0 hr hlk dX6_isLetter_17
/-! SecondLife$Reader.isDigit(I)Z -/
def f_X6_isDigit (z : Sh) (h : Hp) (v0 : Int32) : Option (Int32) :=
  if v0 < 48 then
    some 0
  else
    if 57 < v0 then
      some 0
    else
      some 1
set_option maxHeartbeats 4000000 in
theorem c_X6_isDigit {l : Launch} {s0 : State} {E : Ev} (G : Gl s0 E) {z : Sh} {h : Hp} {v0 : Int32} {r : Int32} (hf : f_X6_isDigit z h v0 = some r) : Ct l s0 E yX6_isDigit cX6_isDigit 1 (some .boolean) 0 0 [.int v0] z h h (some (.int r)) := by
  refine Ct.of G (by decide) (Nat.le_of_ble_eq_true rfl) ?_
  intro p e s m below meth c ls B hw hz hc0 hr hlk hl
  have B : Bd p s0 s E m c cX6_isDigit 1 RX6 := B
  have hx := B.1
  have hb := B.2.1
  have hl : lv_has ls 1 [(0, .int v0)] := hl
  unfold f_X6_isDigit at hf
  refine lv_iload_n hx hb dX6_isDigit_0 rfl (lv_at hl 0 rfl) ?_
  refine lv_bipush (v := 48) hx hb dX6_isDigit_1 (by decide) ?_
  refine lv_icmp_lt (tgt := 16) hx hb dX6_isDigit_3 (by decide) (fun c1 => ?_) (fun c1 => ?_)
  · have hf := (if_pos c1).symm.trans hf
    refine lv_iconst (v := 0) hx hb dX6_isDigit_16 (by decide) ?_
    obtain rfl := so hf
    exact q_zret (Or.inl rfl) B hw hz hc0 hr hlk dX6_isDigit_17
  · have hf := (if_neg c1).symm.trans hf
    refine lv_iload_n hx hb dX6_isDigit_6 rfl (lv_at hl 0 rfl) ?_
    refine lv_bipush (v := 57) hx hb dX6_isDigit_7 (by decide) ?_
    refine lv_icmp_gt (tgt := 16) hx hb dX6_isDigit_9 (by decide) (fun c2 => ?_) (fun c2 => ?_)
    · have hf := (if_pos c2).symm.trans hf
      refine lv_iconst (v := 0) hx hb dX6_isDigit_16 (by decide) ?_
      obtain rfl := so hf
      exact q_zret (Or.inl rfl) B hw hz hc0 hr hlk dX6_isDigit_17
    · have hf := (if_neg c2).symm.trans hf
      refine lv_iconst (v := 1) hx hb dX6_isDigit_12 (by decide) ?_
      refine lv_goto (tgt := 17) hx hb dX6_isDigit_13 (by decide) ?_
      obtain rfl := so hf
      exact q_zret (Or.inr rfl) B hw hz hc0 hr hlk dX6_isDigit_17
/-! SecondLife$Reckoner.<init>()V -/
def f_X7_init (z : Sh) (h : Hp) (v0 : Nat) : Option (Hp × Sh) :=
  if z.K v0 = 7 then
    gd2 z <|
    (nwA z h 14 7).bind fun (a1, h2, z3) =>
    gd2 z3 <|
    (pR z3 h2 7 v0 0 (some a1)).bind fun h4 =>
    (nwA z3 h4 14 64).bind fun (a5, h6, z7) =>
    gd2 z7 <|
    (pR z7 h6 7 v0 1 (some a5)).bind fun h8 =>
    some (h8, z7)
  else none
theorem k_X7_init {z : Sh} {h : Hp} {v0 : Nat} {w : Hp × Sh} (hf : f_X7_init z h v0 = some w) : z.K v0 = 7 := by
  unfold f_X7_init at hf
  exact (if_some hf).1
theorem mo_X7_init {z : Sh} {h : Hp} {v0 : Nat} {h' : Hp} {zE : Sh} (hf : f_X7_init z h v0 = some (h', zE)) : z.sz ≤ zE.sz ∧ z.sl ≤ zE.sl := by
  unfold f_X7_init at hf
  exact (gd2_some (if_some hf).2).1
set_option maxHeartbeats 4000000 in
theorem c_X7_init {l : Launch} {s0 : State} {E : Ev} (G : Gl s0 E) {z : Sh} {h : Hp} {v0 : Nat} {h' : Hp} {zE : Sh} (hf : f_X7_init z h v0 = some (h', zE)) : Ca l s0 E yX7_init cX7_init 1 none 1 24 [.ref v0] z zE h h' (none) := by
  refine Ca.of G (by decide +kernel) (Nat.le_of_ble_eq_true rfl) (mo_X7_init hf) ?_
  intro p e s m below meth c ls B hw hM hr hlk hnm0 hl
  have B : Bd p s0 s E m c cX7_init 1 RX7 := B
  have hx := B.1
  have hb := B.2.1
  have hl : lv_has ls 1 [(0, .ref v0)] := hl
  have hin : meth.name = "<init>" := hnm0
  unfold f_X7_init at hf
  obtain ⟨_, hf⟩ := if_some hf
  obtain ⟨_, hf⟩ := gd2_some hf
  refine lv_aload_n hx hb dX7_init_0 rfl (lv_at hl 0 rfl) ?_
  refine q_obj B hl.1 tw_1_191 tw_1_29 tw_1_30 (Nat.le_of_ble_eq_true rfl) (Nat.le_of_ble_eq_true rfl) dX7_init_1 ?_
  refine lv_aload_n hx hb dX7_init_4 rfl (lv_at hl 0 rfl) ?_
  refine lv_bipush (v := 7) hx hb dX7_init_5 (by decide) ?_
  obtain ⟨⟨a1, h2, z3⟩, e, hf⟩ := ob hf
  obtain ⟨hg, hf⟩ := gd2_some hf
  refine q_newA (atype := .int) (ty := .int) (t0 := 1) e hg B hw hM (by decide) rfl rfl rfl (cfn_14 E _ _) arn_14 tw_1_102 dX7_init_7 (fun H locs hw hM => ?_)
  obtain ⟨h4, e, hf⟩ := ob hf
  refine q_putRF e B hw hin fd_7_0.1 fd_7_0.2.1 fd_7_0.2.2.1 fd_7_0.2.2.2.1 fd_7_0.2.2.2.2 rfl rfl rfl (tyX7_ok 0 (by decide)) (Or.inr ⟨_, rfl⟩) tyX7 tyX7_ok nmX7 tw_1_192 dX7_init_9 (fun H locs hw => ?_)
  refine lv_aload_n hx hb dX7_init_12 rfl (lv_at hl 0 rfl) ?_
  refine lv_bipush (v := 64) hx hb dX7_init_13 (by decide) ?_
  obtain ⟨⟨a5, h6, z7⟩, e, hf⟩ := ob hf
  obtain ⟨hg, hf⟩ := gd2_some hf
  refine q_newA (atype := .int) (ty := .int) (t0 := 1) e hg B hw hM (by decide) rfl rfl rfl (cfn_14 E _ _) arn_14 tw_1_102 dX7_init_15 (fun H locs hw hM => ?_)
  obtain ⟨h8, e, hf⟩ := ob hf
  refine q_putRF e B hw hin fd_7_1.1 fd_7_1.2.1 fd_7_1.2.2.1 fd_7_1.2.2.2.1 fd_7_1.2.2.2.2 rfl rfl rfl (tyX7_ok 1 (by decide)) (Or.inr ⟨_, rfl⟩) tyX7 tyX7_ok nmX7 tw_1_194 dX7_init_17 (fun H locs hw => ?_)
  obtain ⟨rfl, rfl⟩ := so2 hf
  exact q_vret B hw hM.hz hM.hc0 hr hlk dX7_init_20
/-! SecondLife$Reckoner.about(LSecondLife$People;I)V -/
def f_X7_about (z : Sh) (h : Hp) (v0 : Nat) (v1 : Nat) (v2 : Int32) : Option (Hp) :=
  if z.K v0 = 7 then
    (gR z h 7 v0 0).bind fun a1 =>
    (f_X5_part z h v1 v2 6).bind fun x2 =>
    (stI z h a1 0 x2).bind fun h3 =>
    (gR z h3 7 v0 0).bind fun a4 =>
    (f_X5_part z h3 v1 v2 0).bind fun x5 =>
    (stI z h3 a4 1 x5).bind fun h6 =>
    (gR z h6 7 v0 0).bind fun a7 =>
    (f_X5_part z h6 v1 v2 3).bind fun x8 =>
    (stI z h6 a7 3 x8).bind fun h9 =>
    (gR z h9 7 v0 0).bind fun a10 =>
    (f_X5_part z h9 v1 v2 4).bind fun x11 =>
    (stI z h9 a10 4 x11).bind fun h12 =>
    (gR z h12 7 v0 0).bind fun a13 =>
    (f_X5_part z h12 v1 v2 1).bind fun x14 =>
    (stI z h12 a13 5 x14).bind fun h15 =>
    (gR z h15 7 v0 0).bind fun a16 =>
    (f_X5_part z h15 v1 v2 5).bind fun x17 =>
    (stI z h15 a16 6 x17).bind fun h18 =>
    some h18
  else none
theorem k_X7_about {z : Sh} {h : Hp} {v0 : Nat} {v1 : Nat} {v2 : Int32} {w : Hp} (hf : f_X7_about z h v0 v1 v2 = some w) : z.K v0 = 7 := by
  unfold f_X7_about at hf
  exact (if_some hf).1
set_option maxHeartbeats 4000000 in
theorem c_X7_about {l : Launch} {s0 : State} {E : Ev} (G : Gl s0 E) {z : Sh} {h : Hp} {v0 : Nat} {v1 : Nat} {v2 : Int32} {h' : Hp} (hf : f_X7_about z h v0 v1 v2 = some h') : Ct l s0 E yX7_about cX7_about 3 none 1 23 [.ref v0, .ref v1, .int v2] z h h' (none) := by
  refine Ct.of G (by decide) (Nat.le_of_ble_eq_true rfl) ?_
  intro p e s m below meth c ls B hw hz hc0 hr hlk hl
  have B : Bd p s0 s E m c cX7_about 3 RX7 := B
  have hx := B.1
  have hb := B.2.1
  have hl : lv_has ls 3 [(0, .ref v0), (1, .ref v1), (2, .int v2)] := hl
  unfold f_X7_about at hf
  obtain ⟨_, hf⟩ := if_some hf
  refine lv_aload_n hx hb dX7_about_0 rfl (lv_at hl 0 rfl) ?_
  obtain ⟨a1, e, hf⟩ := ob hf
  refine q_getR e B hw fd_7_0.1 fd_7_0.2.1 fd_7_0.2.2.1 fd_7_0.2.2.2.1 fd_7_0.2.2.2.2 rfl tw_1_192 dX7_about_1 ?_
  refine lv_iconst (v := 0) hx hb dX7_about_4 (by decide) ?_
  refine lv_aload_n hx hb dX7_about_5 rfl (lv_at hl 1 rfl) ?_
  refine lv_iload_n hx hb dX7_about_6 rfl (lv_at hl 2 rfl) ?_
  refine lv_bipush (v := 6) hx hb dX7_about_7 (by decide) ?_
  obtain ⟨x2, e, hf⟩ := ob hf
  refine q_callVN (As := [.int v2, .int 6]) (rest := [.int 0, .ref a1]) (st1 := [.int x2, .int 0, .ref a1]) (c_X5_part G e) B hw hz hc0 (k_X5_part e) (by decide) (ci := 5) rfl rfl my_X5_part mv_X5_part tw_3_230 ⟨Nat.le_of_ble_eq_true rfl, Nat.le_of_ble_eq_true rfl⟩ ⟨Nat.zero_le _, Nat.zero_le _⟩ rfl hl.1 rfl rfl (Nat.le_of_ble_eq_true rfl) dX7_about_9 (fun H locs hw => ?_)
  obtain ⟨h3, e, hf⟩ := ob hf
  refine q_stI e B hw dX7_about_12 (fun H locs hw => ?_)
  refine lv_aload_n hx hb dX7_about_13 rfl (lv_at hl 0 rfl) ?_
  obtain ⟨a4, e, hf⟩ := ob hf
  refine q_getR e B hw fd_7_0.1 fd_7_0.2.1 fd_7_0.2.2.1 fd_7_0.2.2.2.1 fd_7_0.2.2.2.2 rfl tw_1_192 dX7_about_14 ?_
  refine lv_iconst (v := 1) hx hb dX7_about_17 (by decide) ?_
  refine lv_aload_n hx hb dX7_about_18 rfl (lv_at hl 1 rfl) ?_
  refine lv_iload_n hx hb dX7_about_19 rfl (lv_at hl 2 rfl) ?_
  refine lv_iconst (v := 0) hx hb dX7_about_20 (by decide) ?_
  obtain ⟨x5, e, hf⟩ := ob hf
  refine q_callVN (As := [.int v2, .int 0]) (rest := [.int 1, .ref a4]) (st1 := [.int x5, .int 1, .ref a4]) (c_X5_part G e) B hw hz hc0 (k_X5_part e) (by decide) (ci := 5) rfl rfl my_X5_part mv_X5_part tw_3_230 ⟨Nat.le_of_ble_eq_true rfl, Nat.le_of_ble_eq_true rfl⟩ ⟨Nat.zero_le _, Nat.zero_le _⟩ rfl hl.1 rfl rfl (Nat.le_of_ble_eq_true rfl) dX7_about_21 (fun H locs hw => ?_)
  obtain ⟨h6, e, hf⟩ := ob hf
  refine q_stI e B hw dX7_about_24 (fun H locs hw => ?_)
  refine lv_aload_n hx hb dX7_about_25 rfl (lv_at hl 0 rfl) ?_
  obtain ⟨a7, e, hf⟩ := ob hf
  refine q_getR e B hw fd_7_0.1 fd_7_0.2.1 fd_7_0.2.2.1 fd_7_0.2.2.2.1 fd_7_0.2.2.2.2 rfl tw_1_192 dX7_about_26 ?_
  refine lv_iconst (v := 3) hx hb dX7_about_29 (by decide) ?_
  refine lv_aload_n hx hb dX7_about_30 rfl (lv_at hl 1 rfl) ?_
  refine lv_iload_n hx hb dX7_about_31 rfl (lv_at hl 2 rfl) ?_
  refine lv_iconst (v := 3) hx hb dX7_about_32 (by decide) ?_
  obtain ⟨x8, e, hf⟩ := ob hf
  refine q_callVN (As := [.int v2, .int 3]) (rest := [.int 3, .ref a7]) (st1 := [.int x8, .int 3, .ref a7]) (c_X5_part G e) B hw hz hc0 (k_X5_part e) (by decide) (ci := 5) rfl rfl my_X5_part mv_X5_part tw_3_230 ⟨Nat.le_of_ble_eq_true rfl, Nat.le_of_ble_eq_true rfl⟩ ⟨Nat.zero_le _, Nat.zero_le _⟩ rfl hl.1 rfl rfl (Nat.le_of_ble_eq_true rfl) dX7_about_33 (fun H locs hw => ?_)
  obtain ⟨h9, e, hf⟩ := ob hf
  refine q_stI e B hw dX7_about_36 (fun H locs hw => ?_)
  refine lv_aload_n hx hb dX7_about_37 rfl (lv_at hl 0 rfl) ?_
  obtain ⟨a10, e, hf⟩ := ob hf
  refine q_getR e B hw fd_7_0.1 fd_7_0.2.1 fd_7_0.2.2.1 fd_7_0.2.2.2.1 fd_7_0.2.2.2.2 rfl tw_1_192 dX7_about_38 ?_
  refine lv_iconst (v := 4) hx hb dX7_about_41 (by decide) ?_
  refine lv_aload_n hx hb dX7_about_42 rfl (lv_at hl 1 rfl) ?_
  refine lv_iload_n hx hb dX7_about_43 rfl (lv_at hl 2 rfl) ?_
  refine lv_iconst (v := 4) hx hb dX7_about_44 (by decide) ?_
  obtain ⟨x11, e, hf⟩ := ob hf
  refine q_callVN (As := [.int v2, .int 4]) (rest := [.int 4, .ref a10]) (st1 := [.int x11, .int 4, .ref a10]) (c_X5_part G e) B hw hz hc0 (k_X5_part e) (by decide) (ci := 5) rfl rfl my_X5_part mv_X5_part tw_3_230 ⟨Nat.le_of_ble_eq_true rfl, Nat.le_of_ble_eq_true rfl⟩ ⟨Nat.zero_le _, Nat.zero_le _⟩ rfl hl.1 rfl rfl (Nat.le_of_ble_eq_true rfl) dX7_about_45 (fun H locs hw => ?_)
  obtain ⟨h12, e, hf⟩ := ob hf
  refine q_stI e B hw dX7_about_48 (fun H locs hw => ?_)
  refine lv_aload_n hx hb dX7_about_49 rfl (lv_at hl 0 rfl) ?_
  obtain ⟨a13, e, hf⟩ := ob hf
  refine q_getR e B hw fd_7_0.1 fd_7_0.2.1 fd_7_0.2.2.1 fd_7_0.2.2.2.1 fd_7_0.2.2.2.2 rfl tw_1_192 dX7_about_50 ?_
  refine lv_iconst (v := 5) hx hb dX7_about_53 (by decide) ?_
  refine lv_aload_n hx hb dX7_about_54 rfl (lv_at hl 1 rfl) ?_
  refine lv_iload_n hx hb dX7_about_55 rfl (lv_at hl 2 rfl) ?_
  refine lv_iconst (v := 1) hx hb dX7_about_56 (by decide) ?_
  obtain ⟨x14, e, hf⟩ := ob hf
  refine q_callVN (As := [.int v2, .int 1]) (rest := [.int 5, .ref a13]) (st1 := [.int x14, .int 5, .ref a13]) (c_X5_part G e) B hw hz hc0 (k_X5_part e) (by decide) (ci := 5) rfl rfl my_X5_part mv_X5_part tw_3_230 ⟨Nat.le_of_ble_eq_true rfl, Nat.le_of_ble_eq_true rfl⟩ ⟨Nat.zero_le _, Nat.zero_le _⟩ rfl hl.1 rfl rfl (Nat.le_of_ble_eq_true rfl) dX7_about_57 (fun H locs hw => ?_)
  obtain ⟨h15, e, hf⟩ := ob hf
  refine q_stI e B hw dX7_about_60 (fun H locs hw => ?_)
  refine lv_aload_n hx hb dX7_about_61 rfl (lv_at hl 0 rfl) ?_
  obtain ⟨a16, e, hf⟩ := ob hf
  refine q_getR e B hw fd_7_0.1 fd_7_0.2.1 fd_7_0.2.2.1 fd_7_0.2.2.2.1 fd_7_0.2.2.2.2 rfl tw_1_192 dX7_about_62 ?_
  refine lv_bipush (v := 6) hx hb dX7_about_65 (by decide) ?_
  refine lv_aload_n hx hb dX7_about_67 rfl (lv_at hl 1 rfl) ?_
  refine lv_iload_n hx hb dX7_about_68 rfl (lv_at hl 2 rfl) ?_
  refine lv_iconst (v := 5) hx hb dX7_about_69 (by decide) ?_
  obtain ⟨x17, e, hf⟩ := ob hf
  refine q_callVN (As := [.int v2, .int 5]) (rest := [.int 6, .ref a16]) (st1 := [.int x17, .int 6, .ref a16]) (c_X5_part G e) B hw hz hc0 (k_X5_part e) (by decide) (ci := 5) rfl rfl my_X5_part mv_X5_part tw_3_230 ⟨Nat.le_of_ble_eq_true rfl, Nat.le_of_ble_eq_true rfl⟩ ⟨Nat.zero_le _, Nat.zero_le _⟩ rfl hl.1 rfl rfl (Nat.le_of_ble_eq_true rfl) dX7_about_70 (fun H locs hw => ?_)
  obtain ⟨h18, e, hf⟩ := ob hf
  refine q_stI e B hw dX7_about_73 (fun H locs hw => ?_)
  obtain rfl := so hf
  exact q_vret B hw hz hc0 hr hlk dX7_about_74
/-! SecondLife$Reckoner.joined(III)I -/
def f_X7_joined_107 (z : Sh) (h : Hp) (u0 : Int64) : Option (Int32) :=
  if (lg_cmp u0 1000000) ≤ 0 then
    if 0 ≤ (lg_cmp u0 (-1000000)) then
      some (Int64.toInt32 u0)
    else
      some ((-1000000) : Int32)
  else
    some (1000000 : Int32)
def f_X7_joined (z : Sh) (h : Hp) (v0 : Int32) (v1 : Int32) (v2 : Int32) : Option (Int32) :=
  if v0 = (-8) then
    some (v1 ||| v2)
  else
    if v0 = (-7) then
      some (v1 &&& v2)
    else
      if v0 = (-6) then
        if v1 ≤ v2 then
          some (0 : Int32)
        else
          some (1 : Int32)
      else
        if v0 = (-5) then
          if v2 ≤ v1 then
            some (0 : Int32)
          else
            some (1 : Int32)
        else
          if v0 = (-4) then
            if v1 = v2 then
              some (1 : Int32)
            else
              some (0 : Int32)
          else
            if v0 = (-1) then
              f_X7_joined_107 z h (Int32.toInt64 (v1 + v2))
            else
              if v0 = (-2) then
                f_X7_joined_107 z h (Int32.toInt64 (v1 - v2))
              else
                f_X7_joined_107 z h ((Int32.toInt64 v1) * (Int32.toInt64 v2))
set_option maxHeartbeats 4000000 in
theorem w_X7_joined_107 {p : Program} {l : Launch} {e : Env} {s : State} {m : MethodId} {args : Array Value} {below : List Frame} {meth : Method} {c : Code} {s0 : State} {E : Ev} {z : Sh} {h : Hp} {r : Int32} (G : Gl s0 E) (B : Bd p s0 s E m c cX7_joined 5 RX7) (hz : s0.heap.size ≤ z.sz) (hc0 : s.heap.size + 0 = z.sz) (hr : meth.sig.returnType = (some .int)) (hlk : meth.locks = false) : ∀ (u0 : Int64) (H : Heap) (locs : List Loc) (ls : Array Slot), Pw s0 s E z h H locs → lv_has ls 5 [] → f_X7_joined_107 z h u0 = some r → W p l e (rmO 0 0) s m args below meth c H locs 0 0 (Zt below s0 E z h (some (.int r)) args s 0 0) (F0 m 107 ls [.long u0]) := by
  have hx := B.1
  have hb := B.2.1
  intro u0 H locs ls hw hl hf
  unfold f_X7_joined_107 at hf
  refine lv_lstore_n (lv' := [(3, .long u0)]) hx hb dX7_joined_107 rfl hl (by decide) rfl (fun ls hl => ?_)
  refine lv_lload_n hx hb dX7_joined_108 rfl (lv_at hl 0 rfl) ?_
  refine lv_ldc2 hx hb B.2.2.2.1 (B.w tw_4_6 rfl) dX7_joined_109 ?_
  refine W.lcmp hx hb dX7_joined_112 ?_
  refine lv_if_le (tgt := 121) hx hb dX7_joined_113 (by decide) (fun c1 => ?_) (fun c1 => ?_)
  · have hf := (if_pos c1).symm.trans hf
    refine lv_lload_n hx hb dX7_joined_121 rfl (lv_at hl 0 rfl) ?_
    refine lv_ldc2 hx hb B.2.2.2.1 (B.w tw_4_8 rfl) dX7_joined_122 ?_
    refine W.lcmp hx hb dX7_joined_125 ?_
    refine lv_if_ge (tgt := 134) hx hb dX7_joined_126 (by decide) (fun c2 => ?_) (fun c2 => ?_)
    · have hf := (if_pos c2).symm.trans hf
      refine lv_lload_n hx hb dX7_joined_134 rfl (lv_at hl 0 rfl) ?_
      refine lv_l2i (v := (Int64.toInt32 u0)) hx hb dX7_joined_135 rfl ?_
      obtain rfl := so hf
      exact q_iret B hw hz hc0 hr hlk dX7_joined_136
    · have hf := (if_neg c2).symm.trans hf
      refine lv_ldc hx hb B.2.2.2.1 (B.w tw_4_9 rfl) dX7_joined_129 ?_
      refine lv_goto (tgt := 136) hx hb dX7_joined_131 (by decide) ?_
      obtain rfl := so hf
      exact q_iret B hw hz hc0 hr hlk dX7_joined_136
  · have hf := (if_neg c1).symm.trans hf
    refine lv_ldc hx hb B.2.2.2.1 (B.w tw_4_7 rfl) dX7_joined_116 ?_
    refine lv_goto (tgt := 136) hx hb dX7_joined_118 (by decide) ?_
    obtain rfl := so hf
    exact q_iret B hw hz hc0 hr hlk dX7_joined_136
set_option maxHeartbeats 4000000 in
theorem c_X7_joined {l : Launch} {s0 : State} {E : Ev} (G : Gl s0 E) {z : Sh} {h : Hp} {v0 : Int32} {v1 : Int32} {v2 : Int32} {r : Int32} (hf : f_X7_joined z h v0 v1 v2 = some r) : Ct l s0 E yX7_joined cX7_joined 5 (some .int) 0 0 [.int v0, .int v1, .int v2] z h h (some (.int r)) := by
  refine Ct.of G (by decide) (Nat.le_of_ble_eq_true rfl) ?_
  intro p e s m below meth c ls B hw hz hc0 hr hlk hl
  have B : Bd p s0 s E m c cX7_joined 5 RX7 := B
  have hx := B.1
  have hb := B.2.1
  have hl : lv_has ls 5 [(0, .int v0), (1, .int v1), (2, .int v2)] := hl
  unfold f_X7_joined at hf
  refine lv_iload_n hx hb dX7_joined_0 rfl (lv_at hl 0 rfl) ?_
  by_cases c1_m8 : v0 = (-8)
  · have hf := (if_pos c1_m8).symm.trans hf
    refine lv_tableIn (off := 72) (tgt := 73) hx hb dX7_joined_1 (by rw [c1_m8]; decide) (by rw [c1_m8]; decide) (by rw [c1_m8]; rfl) (by decide) ?_
    refine lv_iload_n hx hb dX7_joined_73 rfl (lv_at hl 1 rfl) ?_
    refine lv_iload_n hx hb dX7_joined_74 rfl (lv_at hl 2 rfl) ?_
    refine lv_ior hx hb dX7_joined_75 ?_
    obtain rfl := so hf
    exact q_iret B hw hz hc0 hr hlk dX7_joined_76
  have hf := (if_neg c1_m8).symm.trans hf
  by_cases c1_m7 : v0 = (-7)
  · have hf := (if_pos c1_m7).symm.trans hf
    refine lv_tableIn (off := 68) (tgt := 69) hx hb dX7_joined_1 (by rw [c1_m7]; decide) (by rw [c1_m7]; decide) (by rw [c1_m7]; rfl) (by decide) ?_
    refine lv_iload_n hx hb dX7_joined_69 rfl (lv_at hl 1 rfl) ?_
    refine lv_iload_n hx hb dX7_joined_70 rfl (lv_at hl 2 rfl) ?_
    refine lv_iand hx hb dX7_joined_71 ?_
    obtain rfl := so hf
    exact q_iret B hw hz hc0 hr hlk dX7_joined_72
  have hf := (if_neg c1_m7).symm.trans hf
  by_cases c1_m6 : v0 = (-6)
  · have hf := (if_pos c1_m6).symm.trans hf
    refine lv_tableIn (off := 57) (tgt := 58) hx hb dX7_joined_1 (by rw [c1_m6]; decide) (by rw [c1_m6]; decide) (by rw [c1_m6]; rfl) (by decide) ?_
    refine lv_iload_n hx hb dX7_joined_58 rfl (lv_at hl 1 rfl) ?_
    refine lv_iload_n hx hb dX7_joined_59 rfl (lv_at hl 2 rfl) ?_
    refine lv_icmp_le (tgt := 67) hx hb dX7_joined_60 (by decide) (fun c3 => ?_) (fun c3 => ?_)
    · have hf := (if_pos c3).symm.trans hf
      refine lv_iconst (v := 0) hx hb dX7_joined_67 (by decide) ?_
      obtain rfl := so hf
      exact q_iret B hw hz hc0 hr hlk dX7_joined_68
    · have hf := (if_neg c3).symm.trans hf
      refine lv_iconst (v := 1) hx hb dX7_joined_63 (by decide) ?_
      refine lv_goto (tgt := 68) hx hb dX7_joined_64 (by decide) ?_
      obtain rfl := so hf
      exact q_iret B hw hz hc0 hr hlk dX7_joined_68
  have hf := (if_neg c1_m6).symm.trans hf
  by_cases c1_m5 : v0 = (-5)
  · have hf := (if_pos c1_m5).symm.trans hf
    refine lv_tableIn (off := 46) (tgt := 47) hx hb dX7_joined_1 (by rw [c1_m5]; decide) (by rw [c1_m5]; decide) (by rw [c1_m5]; rfl) (by decide) ?_
    refine lv_iload_n hx hb dX7_joined_47 rfl (lv_at hl 1 rfl) ?_
    refine lv_iload_n hx hb dX7_joined_48 rfl (lv_at hl 2 rfl) ?_
    refine lv_icmp_ge (tgt := 56) hx hb dX7_joined_49 (by decide) (fun c4 => ?_) (fun c4 => ?_)
    · have hf := (if_pos c4).symm.trans hf
      refine lv_iconst (v := 0) hx hb dX7_joined_56 (by decide) ?_
      obtain rfl := so hf
      exact q_iret B hw hz hc0 hr hlk dX7_joined_57
    · have hf := (if_neg c4).symm.trans hf
      refine lv_iconst (v := 1) hx hb dX7_joined_52 (by decide) ?_
      refine lv_goto (tgt := 57) hx hb dX7_joined_53 (by decide) ?_
      obtain rfl := so hf
      exact q_iret B hw hz hc0 hr hlk dX7_joined_57
  have hf := (if_neg c1_m5).symm.trans hf
  by_cases c1_m4 : v0 = (-4)
  · have hf := (if_pos c1_m4).symm.trans hf
    refine lv_tableIn (off := 35) (tgt := 36) hx hb dX7_joined_1 (by rw [c1_m4]; decide) (by rw [c1_m4]; decide) (by rw [c1_m4]; rfl) (by decide) ?_
    refine lv_iload_n hx hb dX7_joined_36 rfl (lv_at hl 1 rfl) ?_
    refine lv_iload_n hx hb dX7_joined_37 rfl (lv_at hl 2 rfl) ?_
    refine lv_icmp_ne (tgt := 45) hx hb dX7_joined_38 (by decide) (fun c5 => ?_) (fun c5 => ?_)
    · have hf := (if_neg c5).symm.trans hf
      refine lv_iconst (v := 0) hx hb dX7_joined_45 (by decide) ?_
      obtain rfl := so hf
      exact q_iret B hw hz hc0 hr hlk dX7_joined_46
    · have hf := (if_pos c5).symm.trans hf
      refine lv_iconst (v := 1) hx hb dX7_joined_41 (by decide) ?_
      refine lv_goto (tgt := 46) hx hb dX7_joined_42 (by decide) ?_
      obtain rfl := so hf
      exact q_iret B hw hz hc0 hr hlk dX7_joined_46
  have hf := (if_neg c1_m4).symm.trans hf
  refine lv_tableOut (tgt := 77) hx hb dX7_joined_1 (sw_out (fun k h1 h2 => ?_)) (by decide) ?_
  · rcases (show k = (-8) ∨ k = (-7) ∨ k = (-6) ∨ k = (-5) ∨ k = (-4) by omega) with rfl | rfl | rfl | rfl | rfl
    · exact fun q => c1_m8 (Int32.toInt_inj.mp q)
    · exact fun q => c1_m7 (Int32.toInt_inj.mp q)
    · exact fun q => c1_m6 (Int32.toInt_inj.mp q)
    · exact fun q => c1_m5 (Int32.toInt_inj.mp q)
    · exact fun q => c1_m4 (Int32.toInt_inj.mp q)
  refine lv_iload_n hx hb dX7_joined_77 rfl (lv_at hl 0 rfl) ?_
  refine lv_iconst (v := (-1)) hx hb dX7_joined_78 (by decide) ?_
  refine lv_icmp_ne (tgt := 89) hx hb dX7_joined_79 (by decide) (fun c1 => ?_) (fun c1 => ?_)
  · have hf := (if_neg c1).symm.trans hf
    refine lv_iload_n hx hb dX7_joined_89 rfl (lv_at hl 0 rfl) ?_
    refine lv_bipush (v := (-2)) hx hb dX7_joined_90 (by decide) ?_
    refine lv_icmp_ne (tgt := 102) hx hb dX7_joined_92 (by decide) (fun c2 => ?_) (fun c2 => ?_)
    · have hf := (if_neg c2).symm.trans hf
      refine lv_iload_n hx hb dX7_joined_102 rfl (lv_at hl 1 rfl) ?_
      refine lv_i2l (v := (Int32.toInt64 v1)) hx hb dX7_joined_103 rfl ?_
      refine lv_iload_n hx hb dX7_joined_104 rfl (lv_at hl 2 rfl) ?_
      refine lv_i2l (v := (Int32.toInt64 v2)) hx hb dX7_joined_105 rfl ?_
      refine lv_lmul hx hb dX7_joined_106 ?_
      exact w_X7_joined_107 G B hz hc0 hr hlk  ((Int32.toInt64 v1) * (Int32.toInt64 v2)) _ _ _ hw (lv_sub hl [] rfl) hf
    · have hf := (if_pos c2).symm.trans hf
      refine lv_iload_n hx hb dX7_joined_95 rfl (lv_at hl 1 rfl) ?_
      refine lv_iload_n hx hb dX7_joined_96 rfl (lv_at hl 2 rfl) ?_
      refine lv_isub hx hb dX7_joined_97 ?_
      refine lv_i2l (v := (Int32.toInt64 (v1 - v2))) hx hb dX7_joined_98 rfl ?_
      refine lv_goto (tgt := 107) hx hb dX7_joined_99 (by decide) ?_
      exact w_X7_joined_107 G B hz hc0 hr hlk  (Int32.toInt64 (v1 - v2)) _ _ _ hw (lv_sub hl [] rfl) hf
  · have hf := (if_pos c1).symm.trans hf
    refine lv_iload_n hx hb dX7_joined_82 rfl (lv_at hl 1 rfl) ?_
    refine lv_iload_n hx hb dX7_joined_83 rfl (lv_at hl 2 rfl) ?_
    refine lv_iadd hx hb dX7_joined_84 ?_
    refine lv_i2l (v := (Int32.toInt64 (v1 + v2))) hx hb dX7_joined_85 rfl ?_
    refine lv_goto (tgt := 107) hx hb dX7_joined_86 (by decide) ?_
    exact w_X7_joined_107 G B hz hc0 hr hlk  (Int32.toInt64 (v1 + v2)) _ _ _ hw (lv_sub hl [] rfl) hf
/-! SecondLife$Reckoner.factAt(I)I -/
def f_X7_factAt (z : Sh) (h : Hp) (v0 : Nat) (v1 : Int32) : Option (Int32) :=
  if z.K v0 = 7 then
    if v1 < 0 then
      some (0 : Int32)
    else
      (gR z h 7 v0 0).bind fun a2 =>
      (aL z a2).bind fun x3 =>
      if x3 ≤ v1 then
        some (0 : Int32)
      else
        (gR z h 7 v0 0).bind fun a5 =>
        (ldI z h a5 v1).bind fun x6 =>
        some x6
  else none
theorem k_X7_factAt {z : Sh} {h : Hp} {v0 : Nat} {v1 : Int32} {w : Int32} (hf : f_X7_factAt z h v0 v1 = some w) : z.K v0 = 7 := by
  unfold f_X7_factAt at hf
  exact (if_some hf).1
set_option maxHeartbeats 4000000 in
theorem c_X7_factAt {l : Launch} {s0 : State} {E : Ev} (G : Gl s0 E) {z : Sh} {h : Hp} {v0 : Nat} {v1 : Int32} {r : Int32} (hf : f_X7_factAt z h v0 v1 = some r) : Ct l s0 E yX7_factAt cX7_factAt 2 (some .int) 0 0 [.ref v0, .int v1] z h h (some (.int r)) := by
  refine Ct.of G (by decide) (Nat.le_of_ble_eq_true rfl) ?_
  intro p e s m below meth c ls B hw hz hc0 hr hlk hl
  have B : Bd p s0 s E m c cX7_factAt 2 RX7 := B
  have hx := B.1
  have hb := B.2.1
  have hl : lv_has ls 2 [(0, .ref v0), (1, .int v1)] := hl
  unfold f_X7_factAt at hf
  obtain ⟨_, hf⟩ := if_some hf
  refine lv_iload_n hx hb dX7_factAt_0 rfl (lv_at hl 1 rfl) ?_
  refine lv_if_lt (tgt := 22) hx hb dX7_factAt_1 (by decide) (fun c1 => ?_) (fun c1 => ?_)
  · have hf := (if_pos c1).symm.trans hf
    refine lv_iconst (v := 0) hx hb dX7_factAt_22 (by decide) ?_
    obtain rfl := so hf
    exact q_iret B hw hz hc0 hr hlk dX7_factAt_23
  · have hf := (if_neg c1).symm.trans hf
    refine lv_iload_n hx hb dX7_factAt_4 rfl (lv_at hl 1 rfl) ?_
    refine lv_aload_n hx hb dX7_factAt_5 rfl (lv_at hl 0 rfl) ?_
    obtain ⟨a2, e, hf⟩ := ob hf
    refine q_getR e B hw fd_7_0.1 fd_7_0.2.1 fd_7_0.2.2.1 fd_7_0.2.2.2.1 fd_7_0.2.2.2.2 rfl tw_1_192 dX7_factAt_6 ?_
    obtain ⟨x3, e, hf⟩ := ob hf
    refine q_len e B hw dX7_factAt_9 ?_
    refine lv_icmp_ge (tgt := 22) hx hb dX7_factAt_10 (by decide) (fun c4 => ?_) (fun c4 => ?_)
    · have hf := (if_pos c4).symm.trans hf
      refine lv_iconst (v := 0) hx hb dX7_factAt_22 (by decide) ?_
      obtain rfl := so hf
      exact q_iret B hw hz hc0 hr hlk dX7_factAt_23
    · have hf := (if_neg c4).symm.trans hf
      refine lv_aload_n hx hb dX7_factAt_13 rfl (lv_at hl 0 rfl) ?_
      obtain ⟨a5, e, hf⟩ := ob hf
      refine q_getR e B hw fd_7_0.1 fd_7_0.2.1 fd_7_0.2.2.1 fd_7_0.2.2.2.1 fd_7_0.2.2.2.2 rfl tw_1_192 dX7_factAt_14 ?_
      refine lv_iload_n hx hb dX7_factAt_17 rfl (lv_at hl 1 rfl) ?_
      obtain ⟨x6, e, hf⟩ := ob hf
      refine q_ldI e B hw dX7_factAt_18 ?_
      refine lv_goto (tgt := 23) hx hb dX7_factAt_19 (by decide) ?_
      obtain rfl := so hf
      exact q_iret B hw hz hc0 hr hlk dX7_factAt_23
