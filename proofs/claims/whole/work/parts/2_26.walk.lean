/-! SecondLifeModel.takes(II)I -/
def f_X12_takes_37 (n : Nat) (z : Sh) (h : Hp) (v0 : Nat) : Option (Int32 × Hp) :=
  (gI z h 12 v0 10).bind fun x1 =>
  (gI z h 12 v0 11).bind fun x2 =>
  if x2 = 0 then
    (f_X12_next n z h v0).bind fun h4 =>
    some (x1, h4)
  else
    some (x1, h)
def f_X12_takes (n : Nat) (z : Sh) (h : Hp) (v0 : Nat) (v1 : Int32) (v2 : Int32) : Option (Int32 × Hp) :=
  if z.K v0 = 12 then
    (f_X12_is z h v0 24).bind fun x1 =>
    if x1 = 0 then
      (f_X12_fails z h v0 2).bind fun h7 =>
      f_X12_takes_37 n z h7 v0
    else
      (gI z h 12 v0 10).bind fun x3 =>
      (f_X12_within z h (Int32.toInt64 x3) (Int32.toInt64 v1) (Int32.toInt64 v2)).bind fun x4 =>
      if x4 = 0 then
        (f_X12_fails z h v0 3).bind fun h6 =>
        f_X12_takes_37 n z h6 v0
      else
        f_X12_takes_37 n z h v0
  else none
theorem k_X12_takes {n : Nat} {z : Sh} {h : Hp} {v0 : Nat} {v1 : Int32} {v2 : Int32} {w : Int32 × Hp} (hf : f_X12_takes n z h v0 v1 v2 = some w) : z.K v0 = 12 := by
  unfold f_X12_takes at hf
  exact (if_some hf).1
set_option maxHeartbeats 4000000 in
theorem w_X12_takes_37 {p : Program} {l : Launch} {e : Env} {s : State} {m : MethodId} {args : Array Value} {below : List Frame} {meth : Method} {c : Code} {s0 : State} {E : Ev} {z : Sh} {n : Nat} {r : Int32} {h' : Hp} (G : Gl s0 E) (B : Bd p s0 s E m c cX12_takes 4 RX12) (hz : s0.heap.size ≤ z.sz) (hc0 : s.heap.size + 0 = z.sz) (hr : meth.sig.returnType = (some .int)) (hlk : meth.locks = false) : ∀ (h : Hp) (v0 : Nat) (H : Heap) (locs : List Loc) (ls : Array Slot), Pw s0 s E z h H locs → lv_has ls 4 [(0, .ref v0)] → f_X12_takes_37 n z h v0 = some (r, h') → W p l e (rmO 4 85) s m args below meth c H locs 0 0 (Zt below s0 E z h' (some (.int r)) args s 0 0) (F0 m 37 ls []) := by
  have hx := B.1
  have hb := B.2.1
  intro h v0 H locs ls hw hl hf
  unfold f_X12_takes_37 at hf
  refine lv_aload_n hx hb dX12_takes_37 rfl (lv_at hl 0 rfl) ?_
  obtain ⟨x1, e, hf⟩ := ob hf
  refine q_getI e B hw fd_12_10.1 fd_12_10.2.1 fd_12_10.2.2.1 fd_12_10.2.2.2.1 fd_12_10.2.2.2.2 rfl tw_6_57 dX12_takes_38 ?_
  refine lv_istore_n (lv' := [(3, .int x1), (0, .ref v0)]) hx hb dX12_takes_41 rfl hl (by decide) rfl (fun ls hl => ?_)
  refine lv_aload_n hx hb dX12_takes_42 rfl (lv_at hl 1 rfl) ?_
  obtain ⟨x2, e, hf⟩ := ob hf
  refine q_getI e B hw fd_12_11.1 fd_12_11.2.1 fd_12_11.2.2.1 fd_12_11.2.2.2.1 fd_12_11.2.2.2.2 rfl tw_6_58 dX12_takes_43 ?_
  refine lv_if_ne (tgt := 53) hx hb dX12_takes_46 (by decide) (fun c3 => ?_) (fun c3 => ?_)
  · have hf := (if_neg c3).symm.trans hf
    refine lv_iload_n hx hb dX12_takes_53 rfl (lv_at hl 0 rfl) ?_
    obtain ⟨rfl, rfl⟩ := so2 hf
    exact q_iret B hw hz hc0 hr hlk dX12_takes_54
  · have hf := (if_pos c3).symm.trans hf
    refine lv_aload_n hx hb dX12_takes_49 rfl (lv_at hl 1 rfl) ?_
    obtain ⟨h4, e, hf⟩ := ob hf
    refine q_callV (As := []) (rest := []) (st1 := []) (c_X12_next G e) B hw hz hc0 (k_X12_next e) (by decide) (ci := 12) rfl rfl my_X12_next mv_X12_next tw_6_170 ⟨Nat.le_of_ble_eq_true rfl, Nat.le_of_ble_eq_true rfl⟩ ⟨Nat.zero_le _, Nat.zero_le _⟩ rfl hl.1 rfl rfl (Nat.le_of_ble_eq_true rfl) dX12_takes_50 (fun H locs hw => ?_)
    refine lv_iload_n hx hb dX12_takes_53 rfl (lv_at hl 0 rfl) ?_
    obtain ⟨rfl, rfl⟩ := so2 hf
    exact q_iret B hw hz hc0 hr hlk dX12_takes_54
set_option maxHeartbeats 4000000 in
theorem c_X12_takes {l : Launch} {s0 : State} {E : Ev} (G : Gl s0 E) {n : Nat} {z : Sh} {h : Hp} {v0 : Nat} {v1 : Int32} {v2 : Int32} {r : Int32} {h' : Hp} (hf : f_X12_takes n z h v0 v1 v2 = some (r, h')) : Ct l s0 E yX12_takes cX12_takes 4 (some .int) 4 85 [.ref v0, .int v1, .int v2] z h h' (some (.int r)) := by
  refine Ct.of G (by decide) (Nat.le_of_ble_eq_true rfl) ?_
  intro p e s m below meth c ls B hw hz hc0 hr hlk hl
  have B : Bd p s0 s E m c cX12_takes 4 RX12 := B
  have hx := B.1
  have hb := B.2.1
  have hl : lv_has ls 4 [(0, .ref v0), (1, .int v1), (2, .int v2)] := hl
  unfold f_X12_takes at hf
  obtain ⟨_, hf⟩ := if_some hf
  refine lv_aload_n hx hb dX12_takes_0 rfl (lv_at hl 0 rfl) ?_
  refine lv_bipush (v := 24) hx hb dX12_takes_1 (by decide) ?_
  obtain ⟨x1, e, hf⟩ := ob hf
  refine q_callV (As := [.int 24]) (rest := []) (st1 := [.int x1]) (c_X12_is G e) B hw hz hc0 (k_X12_is e) (by decide) (ci := 12) rfl rfl my_X12_is mv_X12_is tw_6_196 ⟨Nat.le_of_ble_eq_true rfl, Nat.le_of_ble_eq_true rfl⟩ ⟨Nat.zero_le _, Nat.zero_le _⟩ rfl hl.1 rfl rfl (Nat.le_of_ble_eq_true rfl) dX12_takes_3 (fun H locs hw => ?_)
  refine lv_if_ne (tgt := 17) hx hb dX12_takes_6 (by decide) (fun c2 => ?_) (fun c2 => ?_)
  · have hf := (if_neg c2).symm.trans hf
    refine lv_aload_n hx hb dX12_takes_17 rfl (lv_at hl 0 rfl) ?_
    obtain ⟨x3, e, hf⟩ := ob hf
    refine q_getI e B hw fd_12_10.1 fd_12_10.2.1 fd_12_10.2.2.1 fd_12_10.2.2.2.1 fd_12_10.2.2.2.2 rfl tw_6_57 dX12_takes_18 ?_
    refine lv_i2l (v := (Int32.toInt64 x3)) hx hb dX12_takes_21 rfl ?_
    refine lv_iload_n hx hb dX12_takes_22 rfl (lv_at hl 1 rfl) ?_
    refine lv_i2l (v := (Int32.toInt64 v1)) hx hb dX12_takes_23 rfl ?_
    refine lv_iload_n hx hb dX12_takes_24 rfl (lv_at hl 2 rfl) ?_
    refine lv_i2l (v := (Int32.toInt64 v2)) hx hb dX12_takes_25 rfl ?_
    obtain ⟨x4, e, hf⟩ := ob hf
    refine q_callS (As := [.long (Int32.toInt64 x3), .long (Int32.toInt64 v1), .long (Int32.toInt64 v2)]) (rest := []) (st1 := [.int x4]) (c_X12_within G e) B hw hz hc0 my_X12_within mv_X12_within tw_6_166 ⟨Nat.le_of_ble_eq_true rfl, Nat.le_of_ble_eq_true rfl⟩ ⟨Nat.zero_le _, Nat.zero_le _⟩ rfl hl.1 rfl rfl (Nat.le_of_ble_eq_true rfl) dX12_takes_26 (fun H locs hw => ?_)
    refine lv_if_ne (tgt := 37) hx hb dX12_takes_29 (by decide) (fun c5 => ?_) (fun c5 => ?_)
    · have hf := (if_neg c5).symm.trans hf
      exact w_X12_takes_37 G B hz hc0 hr hlk  h v0 _ _ _ hw (lv_sub hl [0] rfl) hf
    · have hf := (if_pos c5).symm.trans hf
      refine lv_aload_n hx hb dX12_takes_32 rfl (lv_at hl 0 rfl) ?_
      refine lv_iconst (v := 3) hx hb dX12_takes_33 (by decide) ?_
      obtain ⟨h6, e, hf⟩ := ob hf
      refine q_callV (As := [.int 3]) (rest := []) (st1 := []) (c_X12_fails G e) B hw hz hc0 (k_X12_fails e) (by decide) (ci := 12) rfl rfl my_X12_fails mv_X12_fails tw_6_200 ⟨Nat.le_of_ble_eq_true rfl, Nat.le_of_ble_eq_true rfl⟩ ⟨Nat.zero_le _, Nat.zero_le _⟩ rfl hl.1 rfl rfl (Nat.le_of_ble_eq_true rfl) dX12_takes_34 (fun H locs hw => ?_)
      exact w_X12_takes_37 G B hz hc0 hr hlk  h6 v0 _ _ _ hw (lv_sub hl [0] rfl) hf
  · have hf := (if_pos c2).symm.trans hf
    refine lv_aload_n hx hb dX12_takes_9 rfl (lv_at hl 0 rfl) ?_
    refine lv_iconst (v := 2) hx hb dX12_takes_10 (by decide) ?_
    obtain ⟨h7, e, hf⟩ := ob hf
    refine q_callV (As := [.int 2]) (rest := []) (st1 := []) (c_X12_fails G e) B hw hz hc0 (k_X12_fails e) (by decide) (ci := 12) rfl rfl my_X12_fails mv_X12_fails tw_6_200 ⟨Nat.le_of_ble_eq_true rfl, Nat.le_of_ble_eq_true rfl⟩ ⟨Nat.zero_le _, Nat.zero_le _⟩ rfl hl.1 rfl rfl (Nat.le_of_ble_eq_true rfl) dX12_takes_11 (fun H locs hw => ?_)
    refine lv_goto (tgt := 37) hx hb dX12_takes_14 (by decide) ?_
    exact w_X12_takes_37 G B hz hc0 hr hlk  h7 v0 _ _ _ hw (lv_sub hl [0] rfl) hf
/-! SecondLifeModel.goesIn(I)Z -/
def f_X12_goesIn_22 (n : Nat) (z : Sh) (h : Hp) (v0 : Nat) : Option (Int32 × Hp) :=
  (gI z h 12 v0 11).bind fun x1 =>
  if x1 = 0 then
    some (1, h)
  else
    some (0, h)
def f_X12_goesIn_11 (n : Nat) (z : Sh) (h : Hp) (v0 : Nat) : Option (Int32 × Hp) :=
  (gI z h 12 v0 11).bind fun x1 =>
  if x1 = 0 then
    (f_X12_next n z h v0).bind fun h3 =>
    f_X12_goesIn_22 n z h3 v0
  else
    f_X12_goesIn_22 n z h v0
def f_X12_goesIn (n : Nat) (z : Sh) (h : Hp) (v0 : Nat) (v1 : Int32) : Option (Int32 × Hp) :=
  if z.K v0 = 12 then
    if v1 = 6 then
      (f_X12_fails z h v0 4).bind fun h2 =>
      f_X12_goesIn_11 n z h2 v0
    else
      f_X12_goesIn_11 n z h v0
  else none
theorem k_X12_goesIn {n : Nat} {z : Sh} {h : Hp} {v0 : Nat} {v1 : Int32} {w : Int32 × Hp} (hf : f_X12_goesIn n z h v0 v1 = some w) : z.K v0 = 12 := by
  unfold f_X12_goesIn at hf
  exact (if_some hf).1
set_option maxHeartbeats 4000000 in
theorem w_X12_goesIn_22 {p : Program} {l : Launch} {e : Env} {s : State} {m : MethodId} {args : Array Value} {below : List Frame} {meth : Method} {c : Code} {s0 : State} {E : Ev} {z : Sh} {n : Nat} {r : Int32} {h' : Hp} (G : Gl s0 E) (B : Bd p s0 s E m c cX12_goesIn 2 RX12) (hz : s0.heap.size ≤ z.sz) (hc0 : s.heap.size + 0 = z.sz) (hr : meth.sig.returnType = (some .boolean)) (hlk : meth.locks = false) : ∀ (h : Hp) (v0 : Nat) (H : Heap) (locs : List Loc) (ls : Array Slot), Pw s0 s E z h H locs → lv_has ls 2 [(0, .ref v0)] → f_X12_goesIn_22 n z h v0 = some (r, h') → W p l e (rmO 4 85) s m args below meth c H locs 0 0 (Zt below s0 E z h' (some (.int r)) args s 0 0) (F0 m 22 ls []) := by
  have hx := B.1
  have hb := B.2.1
  intro h v0 H locs ls hw hl hf
  unfold f_X12_goesIn_22 at hf
  refine lv_aload_n hx hb dX12_goesIn_22 rfl (lv_at hl 0 rfl) ?_
  obtain ⟨x1, e, hf⟩ := ob hf
  refine q_getI e B hw fd_12_11.1 fd_12_11.2.1 fd_12_11.2.2.1 fd_12_11.2.2.2.1 fd_12_11.2.2.2.2 rfl tw_6_58 dX12_goesIn_23 ?_
  refine lv_if_ne (tgt := 33) hx hb dX12_goesIn_26 (by decide) (fun c2 => ?_) (fun c2 => ?_)
  · have hf := (if_neg c2).symm.trans hf
    refine lv_iconst (v := 0) hx hb dX12_goesIn_33 (by decide) ?_
    obtain ⟨rfl, rfl⟩ := so2 hf
    exact q_zret (Or.inl rfl) B hw hz hc0 hr hlk dX12_goesIn_34
  · have hf := (if_pos c2).symm.trans hf
    refine lv_iconst (v := 1) hx hb dX12_goesIn_29 (by decide) ?_
    refine lv_goto (tgt := 34) hx hb dX12_goesIn_30 (by decide) ?_
    obtain ⟨rfl, rfl⟩ := so2 hf
    exact q_zret (Or.inr rfl) B hw hz hc0 hr hlk dX12_goesIn_34
set_option maxHeartbeats 4000000 in
theorem w_X12_goesIn_11 {p : Program} {l : Launch} {e : Env} {s : State} {m : MethodId} {args : Array Value} {below : List Frame} {meth : Method} {c : Code} {s0 : State} {E : Ev} {z : Sh} {n : Nat} {r : Int32} {h' : Hp} (G : Gl s0 E) (B : Bd p s0 s E m c cX12_goesIn 2 RX12) (hz : s0.heap.size ≤ z.sz) (hc0 : s.heap.size + 0 = z.sz) (hr : meth.sig.returnType = (some .boolean)) (hlk : meth.locks = false) : ∀ (h : Hp) (v0 : Nat) (H : Heap) (locs : List Loc) (ls : Array Slot), Pw s0 s E z h H locs → lv_has ls 2 [(0, .ref v0)] → f_X12_goesIn_11 n z h v0 = some (r, h') → W p l e (rmO 4 85) s m args below meth c H locs 0 0 (Zt below s0 E z h' (some (.int r)) args s 0 0) (F0 m 11 ls []) := by
  have hx := B.1
  have hb := B.2.1
  intro h v0 H locs ls hw hl hf
  unfold f_X12_goesIn_11 at hf
  refine lv_aload_n hx hb dX12_goesIn_11 rfl (lv_at hl 0 rfl) ?_
  obtain ⟨x1, e, hf⟩ := ob hf
  refine q_getI e B hw fd_12_11.1 fd_12_11.2.1 fd_12_11.2.2.1 fd_12_11.2.2.2.1 fd_12_11.2.2.2.2 rfl tw_6_58 dX12_goesIn_12 ?_
  refine lv_if_ne (tgt := 22) hx hb dX12_goesIn_15 (by decide) (fun c2 => ?_) (fun c2 => ?_)
  · have hf := (if_neg c2).symm.trans hf
    exact w_X12_goesIn_22 G B hz hc0 hr hlk  h v0 _ _ _ hw (lv_sub hl [0] rfl) hf
  · have hf := (if_pos c2).symm.trans hf
    refine lv_aload_n hx hb dX12_goesIn_18 rfl (lv_at hl 0 rfl) ?_
    obtain ⟨h3, e, hf⟩ := ob hf
    refine q_callV (As := []) (rest := []) (st1 := []) (c_X12_next G e) B hw hz hc0 (k_X12_next e) (by decide) (ci := 12) rfl rfl my_X12_next mv_X12_next tw_6_170 ⟨Nat.le_of_ble_eq_true rfl, Nat.le_of_ble_eq_true rfl⟩ ⟨Nat.zero_le _, Nat.zero_le _⟩ rfl hl.1 rfl rfl (Nat.le_of_ble_eq_true rfl) dX12_goesIn_19 (fun H locs hw => ?_)
    exact w_X12_goesIn_22 G B hz hc0 hr hlk  h3 v0 _ _ _ hw (lv_sub hl [0] rfl) hf
set_option maxHeartbeats 4000000 in
theorem c_X12_goesIn {l : Launch} {s0 : State} {E : Ev} (G : Gl s0 E) {n : Nat} {z : Sh} {h : Hp} {v0 : Nat} {v1 : Int32} {r : Int32} {h' : Hp} (hf : f_X12_goesIn n z h v0 v1 = some (r, h')) : Ct l s0 E yX12_goesIn cX12_goesIn 2 (some .boolean) 4 85 [.ref v0, .int v1] z h h' (some (.int r)) := by
  refine Ct.of G (by decide) (Nat.le_of_ble_eq_true rfl) ?_
  intro p e s m below meth c ls B hw hz hc0 hr hlk hl
  have B : Bd p s0 s E m c cX12_goesIn 2 RX12 := B
  have hx := B.1
  have hb := B.2.1
  have hl : lv_has ls 2 [(0, .ref v0), (1, .int v1)] := hl
  unfold f_X12_goesIn at hf
  obtain ⟨_, hf⟩ := if_some hf
  refine lv_iload_n hx hb dX12_goesIn_0 rfl (lv_at hl 1 rfl) ?_
  refine lv_bipush (v := 6) hx hb dX12_goesIn_1 (by decide) ?_
  refine lv_icmp_ne (tgt := 11) hx hb dX12_goesIn_3 (by decide) (fun c1 => ?_) (fun c1 => ?_)
  · have hf := (if_neg c1).symm.trans hf
    exact w_X12_goesIn_11 G B hz hc0 hr hlk  h v0 _ _ _ hw (lv_sub hl [0] rfl) hf
  · have hf := (if_pos c1).symm.trans hf
    refine lv_aload_n hx hb dX12_goesIn_6 rfl (lv_at hl 0 rfl) ?_
    refine lv_iconst (v := 4) hx hb dX12_goesIn_7 (by decide) ?_
    obtain ⟨h2, e, hf⟩ := ob hf
    refine q_callV (As := [.int 4]) (rest := []) (st1 := []) (c_X12_fails G e) B hw hz hc0 (k_X12_fails e) (by decide) (ci := 12) rfl rfl my_X12_fails mv_X12_fails tw_6_200 ⟨Nat.le_of_ble_eq_true rfl, Nat.le_of_ble_eq_true rfl⟩ ⟨Nat.zero_le _, Nat.zero_le _⟩ rfl hl.1 rfl rfl (Nat.le_of_ble_eq_true rfl) dX12_goesIn_8 (fun H locs hw => ?_)
    exact w_X12_goesIn_11 G B hz hc0 hr hlk  h2 v0 _ _ _ hw (lv_sub hl [0] rfl) hf
