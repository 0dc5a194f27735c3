/-! SecondLifeModel.noTray(I)I -/
def f_X12_noTray (z : Sh) (h : Hp) (v0 : Nat) (v1 : Int32) : Option (Int32) :=
  if z.K v0 = 12 then
    (f_X12_within z h (Int32.toInt64 v1) 0 3).bind fun x1 =>
    if x1 = 0 then
      some ((-99000002) : Int32)
    else
      (gR z h 12 v0 33).bind fun a3 =>
      (ldI z h a3 v1).bind fun x4 =>
      if x4 = (-1) then
        some ((-99000006) : Int32)
      else
        some (0 : Int32)
  else none
theorem k_X12_noTray {z : Sh} {h : Hp} {v0 : Nat} {v1 : Int32} {w : Int32} (hf : f_X12_noTray z h v0 v1 = some w) : z.K v0 = 12 := by
  unfold f_X12_noTray at hf
  exact (if_some hf).1
set_option maxHeartbeats 4000000 in
theorem c_X12_noTray {l : Launch} {s0 : State} {E : Ev} (G : Gl s0 E) {z : Sh} {h : Hp} {v0 : Nat} {v1 : Int32} {r : Int32} (hf : f_X12_noTray z h v0 v1 = some r) : Ct l s0 E yX12_noTray cX12_noTray 2 (some .int) 1 25 [.ref v0, .int v1] z h h (some (.int r)) := by
  refine Ct.of G (by decide) (Nat.le_of_ble_eq_true rfl) ?_
  intro p e s m below meth c ls B hw hz hc0 hr hlk hl
  have B : Bd p s0 s E m c cX12_noTray 2 RX12 := B
  have hx := B.1
  have hb := B.2.1
  have hl : lv_has ls 2 [(0, .ref v0), (1, .int v1)] := hl
  unfold f_X12_noTray at hf
  obtain ⟨_, hf⟩ := if_some hf
  refine lv_iload_n hx hb dX12_noTray_0 rfl (lv_at hl 1 rfl) ?_
  refine lv_i2l (v := (Int32.toInt64 v1)) hx hb dX12_noTray_1 rfl ?_
  refine lv_lconst (v := 0) hx hb dX12_noTray_2 (by decide) ?_
  refine lv_ldc2 hx hb B.2.2.2.1 (B.w tw_7_175 rfl) dX12_noTray_3 ?_
  obtain ⟨x1, e, hf⟩ := ob hf
  refine q_callS (As := [.long (Int32.toInt64 v1), .long 0, .long 3]) (rest := []) (st1 := [.int x1]) (c_X12_within G e) B hw hz hc0 my_X12_within mv_X12_within tw_6_162 ⟨Nat.le_of_ble_eq_true rfl, Nat.le_of_ble_eq_true rfl⟩ ⟨Nat.zero_le _, Nat.zero_le _⟩ rfl hl.1 rfl rfl (Nat.le_of_ble_eq_true rfl) dX12_noTray_6 (fun H locs hw => ?_)
  refine lv_if_ne (tgt := 17) hx hb dX12_noTray_9 (by decide) (fun c2 => ?_) (fun c2 => ?_)
  · have hf := (if_neg c2).symm.trans hf
    refine lv_aload_n hx hb dX12_noTray_17 rfl (lv_at hl 0 rfl) ?_
    obtain ⟨a3, e, hf⟩ := ob hf
    refine q_getR e B hw fd_12_33.1 fd_12_33.2.1 fd_12_33.2.2.1 fd_12_33.2.2.2.1 fd_12_33.2.2.2.2 rfl tw_6_76 dX12_noTray_18 ?_
    refine lv_iload_n hx hb dX12_noTray_21 rfl (lv_at hl 1 rfl) ?_
    obtain ⟨x4, e, hf⟩ := ob hf
    refine q_ldI e B hw dX12_noTray_22 ?_
    refine lv_iconst (v := (-1)) hx hb dX12_noTray_23 (by decide) ?_
    refine lv_icmp_ne (tgt := 33) hx hb dX12_noTray_24 (by decide) (fun c5 => ?_) (fun c5 => ?_)
    · have hf := (if_neg c5).symm.trans hf
      refine lv_iconst (v := 0) hx hb dX12_noTray_33 (by decide) ?_
      obtain rfl := so hf
      exact q_iret B hw hz hc0 hr hlk dX12_noTray_34
    · have hf := (if_pos c5).symm.trans hf
      refine lv_ldcw hx hb B.2.2.2.1 (B.w tw_7_180 rfl) dX12_noTray_27 ?_
      refine lv_goto (tgt := 34) hx hb dX12_noTray_30 (by decide) ?_
      obtain rfl := so hf
      exact q_iret B hw hz hc0 hr hlk dX12_noTray_34
  · have hf := (if_pos c2).symm.trans hf
    refine lv_ldc hx hb B.2.2.2.1 (B.w tw_7_39 rfl) dX12_noTray_12 ?_
    refine lv_goto (tgt := 34) hx hb dX12_noTray_14 (by decide) ?_
    obtain rfl := so hf
    exact q_iret B hw hz hc0 hr hlk dX12_noTray_34
/-! SecondLifeModel.hasAll()I -/
def f_X12_hasAll_4 (n : Nat) (z : Sh) (h : Hp) : Nat → Nat → Int32 → Int32 → Option (Int32)
  | 0, _, _, _ => none
  | i + 1, v0, v1, v2 =>
    (gR z h 12 v0 1).bind fun a1 =>
    (ldI z h a1 3).bind fun x2 =>
    if x2 ≤ v2 then
      some v1
    else
      (gR z h 12 v0 1).bind fun a4 =>
      (ldI z h a4 (30 + v2)).bind fun x5 =>
      (some (v1 + x5)).bind fun x6 =>
      (some (v2 + 1)).bind fun x7 =>
      (f_X12_hasAll_4 n z h i) v0 x6 x7
def f_X12_hasAll (n : Nat) (z : Sh) (h : Hp) (v0 : Nat) : Option (Int32) :=
  if z.K v0 = 12 then
    f_X12_hasAll_4 n z h n v0 0 0
  else none
theorem k_X12_hasAll {n : Nat} {z : Sh} {h : Hp} {v0 : Nat} {w : Int32} (hf : f_X12_hasAll n z h v0 = some w) : z.K v0 = 12 := by
  unfold f_X12_hasAll at hf
  exact (if_some hf).1
set_option maxHeartbeats 4000000 in
theorem w_X12_hasAll_4 {p : Program} {l : Launch} {e : Env} {s : State} {m : MethodId} {args : Array Value} {below : List Frame} {meth : Method} {c : Code} {s0 : State} {E : Ev} {z : Sh} {h : Hp} {n : Nat} {r : Int32} (G : Gl s0 E) (B : Bd p s0 s E m c cX12_hasAll 3 RX12) (hz : s0.heap.size ≤ z.sz) (hc0 : s.heap.size + 0 = z.sz) (hr : meth.sig.returnType = (some .int)) (hlk : meth.locks = false) : ∀ (i : Nat), ∀ (v0 : Nat) (v1 : Int32) (v2 : Int32) (H : Heap) (locs : List Loc) (ls : Array Slot), Pw s0 s E z h H locs → lv_has ls 3 [(0, .ref v0), (1, .int v1), (2, .int v2)] → f_X12_hasAll_4 n z h i v0 v1 v2 = some r → W p l e (rmO 0 0) s m args below meth c H locs 0 0 (Zt below s0 E z h (some (.int r)) args s 0 0) (F0 m 4 ls []) := by
  have hx := B.1
  have hb := B.2.1
  intro i
  induction i with
  | zero =>
    intro v0 v1 v2 H locs ls hw hl hf
    have hf := (f_X12_hasAll_4.eq_1 ..).symm.trans hf
    cases hf
  | succ i ih =>
    intro v0 v1 v2 H locs ls hw hl hf
    have hf := (f_X12_hasAll_4.eq_2 ..).symm.trans hf
    refine lv_iload_n hx hb dX12_hasAll_4 rfl (lv_at hl 2 rfl) ?_
    refine lv_aload_n hx hb dX12_hasAll_5 rfl (lv_at hl 0 rfl) ?_
    obtain ⟨a1, e, hf⟩ := ob hf
    refine q_getR e B hw fd_12_1.1 fd_12_1.2.1 fd_12_1.2.2.1 fd_12_1.2.2.2.1 fd_12_1.2.2.2.2 rfl tw_6_44 dX12_hasAll_6 ?_
    refine lv_iconst (v := 3) hx hb dX12_hasAll_9 (by decide) ?_
    obtain ⟨x2, e, hf⟩ := ob hf
    refine q_ldI e B hw dX12_hasAll_10 ?_
    refine lv_icmp_ge (tgt := 32) hx hb dX12_hasAll_11 (by decide) (fun c3 => ?_) (fun c3 => ?_)
    · have hf := (if_pos c3).symm.trans hf
      refine lv_iload_n hx hb dX12_hasAll_32 rfl (lv_at hl 1 rfl) ?_
      obtain rfl := so hf
      exact q_iret B hw hz hc0 hr hlk dX12_hasAll_33
    · have hf := (if_neg c3).symm.trans hf
      refine lv_iload_n hx hb dX12_hasAll_14 rfl (lv_at hl 1 rfl) ?_
      refine lv_aload_n hx hb dX12_hasAll_15 rfl (lv_at hl 0 rfl) ?_
      obtain ⟨a4, e, hf⟩ := ob hf
      refine q_getR e B hw fd_12_1.1 fd_12_1.2.1 fd_12_1.2.2.1 fd_12_1.2.2.2.1 fd_12_1.2.2.2.2 rfl tw_6_44 dX12_hasAll_16 ?_
      refine lv_bipush (v := 30) hx hb dX12_hasAll_19 (by decide) ?_
      refine lv_iload_n hx hb dX12_hasAll_21 rfl (lv_at hl 2 rfl) ?_
      refine lv_iadd hx hb dX12_hasAll_22 ?_
      obtain ⟨x5, e, hf⟩ := ob hf
      refine q_ldI e B hw dX12_hasAll_23 ?_
      refine lv_iadd hx hb dX12_hasAll_24 ?_
      obtain ⟨x6, e, hf⟩ := ob hf
      refine q_nmI e ?_
      refine lv_istore_n (lv' := [(1, .int x6), (0, .ref v0), (2, .int v2)]) hx hb dX12_hasAll_25 rfl hl (by decide) rfl (fun ls hl => ?_)
      obtain ⟨x7, e, hf⟩ := ob hf
      refine lv_iinc (v := x7) (lv' := [(2, .int x7), (1, .int x6), (0, .ref v0)]) hx hb dX12_hasAll_26 hl (k := 2) rfl (Option.some.inj e) (by decide) rfl (fun ls hl => ?_)
      refine lv_goto (tgt := 4) hx hb dX12_hasAll_29 (by decide) ?_
      exact ih v0 x6 x7 _ _ _ hw (lv_sub hl [2, 1, 0] rfl) hf
set_option maxHeartbeats 4000000 in
theorem c_X12_hasAll {l : Launch} {s0 : State} {E : Ev} (G : Gl s0 E) {n : Nat} {z : Sh} {h : Hp} {v0 : Nat} {r : Int32} (hf : f_X12_hasAll n z h v0 = some r) : Ct l s0 E yX12_hasAll cX12_hasAll 3 (some .int) 0 0 [.ref v0] z h h (some (.int r)) := by
  refine Ct.of G (by decide) (Nat.le_of_ble_eq_true rfl) ?_
  intro p e s m below meth c ls B hw hz hc0 hr hlk hl
  have B : Bd p s0 s E m c cX12_hasAll 3 RX12 := B
  have hx := B.1
  have hb := B.2.1
  have hl : lv_has ls 3 [(0, .ref v0)] := hl
  unfold f_X12_hasAll at hf
  obtain ⟨_, hf⟩ := if_some hf
  refine lv_iconst (v := 0) hx hb dX12_hasAll_0 (by decide) ?_
  refine lv_istore_n (lv' := [(1, .int 0), (0, .ref v0)]) hx hb dX12_hasAll_1 rfl hl (by decide) rfl (fun ls hl => ?_)
  refine lv_iconst (v := 0) hx hb dX12_hasAll_2 (by decide) ?_
  refine lv_istore_n (lv' := [(2, .int 0), (1, .int 0), (0, .ref v0)]) hx hb dX12_hasAll_3 rfl hl (by decide) rfl (fun ls hl => ?_)
  exact w_X12_hasAll_4 G B hz hc0 hr hlk  n v0 0 0 _ _ _ hw (lv_sub hl [2, 1, 0] rfl) hf
/-! SecondLifeModel.inSecond()I -/
def f_X12_inSecond_35 (n : Nat) (z : Sh) (h : Hp) (k4 : Nat → Int32 → Int32 → Option (Int32)) (v0 : Nat) (v2 : Int32) (u0 : Int32) (u1 : Int32) : Option (Int32) :=
  (some (u1 ||| u0)).bind fun x1 =>
  (some (v2 + 1)).bind fun x2 =>
  k4 v0 x1 x2
def f_X12_inSecond_4 (n : Nat) (z : Sh) (h : Hp) : Nat → Nat → Int32 → Int32 → Option (Int32)
  | 0, _, _, _ => none
  | i + 1, v0, v1, v2 =>
    (gR z h 12 v0 1).bind fun a1 =>
    (ldI z h a1 3).bind fun x2 =>
    if x2 ≤ v2 then
      some v1
    else
      (gR z h 12 v0 1).bind fun a4 =>
      (ldI z h a4 (24 + v2)).bind fun x5 =>
      if x5 = 2 then
        f_X12_inSecond_35 n z h (f_X12_inSecond_4 n z h i) v0 v2 ((1 : Int32) <<< (v2 &&& 31)) v1
      else
        f_X12_inSecond_35 n z h (f_X12_inSecond_4 n z h i) v0 v2 0 v1
def f_X12_inSecond (n : Nat) (z : Sh) (h : Hp) (v0 : Nat) : Option (Int32) :=
  if z.K v0 = 12 then
    f_X12_inSecond_4 n z h n v0 0 0
  else none
theorem k_X12_inSecond {n : Nat} {z : Sh} {h : Hp} {v0 : Nat} {w : Int32} (hf : f_X12_inSecond n z h v0 = some w) : z.K v0 = 12 := by
  unfold f_X12_inSecond at hf
  exact (if_some hf).1
set_option maxHeartbeats 4000000 in
theorem w_X12_inSecond_35 {p : Program} {l : Launch} {e : Env} {s : State} {m : MethodId} {args : Array Value} {below : List Frame} {meth : Method} {c : Code} {s0 : State} {E : Ev} {z : Sh} {h : Hp} {n : Nat} {k4 : Nat → Int32 → Int32 → Option (Int32)} {r : Int32} (G : Gl s0 E) (B : Bd p s0 s E m c cX12_inSecond 3 RX12) (hz : s0.heap.size ≤ z.sz) (hc0 : s.heap.size + 0 = z.sz) (hr : meth.sig.returnType = (some .int)) (hlk : meth.locks = false) (hk4 : ∀ (v0 : Nat) (v1 : Int32) (v2 : Int32) (H : Heap) (locs : List Loc) (ls : Array Slot), Pw s0 s E z h H locs → lv_has ls 3 [(0, .ref v0), (1, .int v1), (2, .int v2)] → k4 v0 v1 v2 = some r → W p l e (rmO 0 0) s m args below meth c H locs 0 0 (Zt below s0 E z h (some (.int r)) args s 0 0) (F0 m 4 ls [])) : ∀ (v0 : Nat) (v2 : Int32) (u0 : Int32) (u1 : Int32) (H : Heap) (locs : List Loc) (ls : Array Slot), Pw s0 s E z h H locs → lv_has ls 3 [(0, .ref v0), (2, .int v2)] → f_X12_inSecond_35 n z h k4 v0 v2 u0 u1 = some r → W p l e (rmO 0 0) s m args below meth c H locs 0 0 (Zt below s0 E z h (some (.int r)) args s 0 0) (F0 m 35 ls [.int u0, .int u1]) := by
  have hx := B.1
  have hb := B.2.1
  intro v0 v2 u0 u1 H locs ls hw hl hf
  unfold f_X12_inSecond_35 at hf
  refine lv_ior hx hb dX12_inSecond_35 ?_
  obtain ⟨x1, e, hf⟩ := ob hf
  refine q_nmI e ?_
  refine lv_istore_n (lv' := [(1, .int x1), (0, .ref v0), (2, .int v2)]) hx hb dX12_inSecond_36 rfl hl (by decide) rfl (fun ls hl => ?_)
  obtain ⟨x2, e, hf⟩ := ob hf
  refine lv_iinc (v := x2) (lv' := [(2, .int x2), (1, .int x1), (0, .ref v0)]) hx hb dX12_inSecond_37 hl (k := 2) rfl (Option.some.inj e) (by decide) rfl (fun ls hl => ?_)
  refine lv_goto (tgt := 4) hx hb dX12_inSecond_40 (by decide) ?_
  exact hk4 v0 x1 x2 _ _ _ hw (lv_sub hl [2, 1, 0] rfl) hf
set_option maxHeartbeats 4000000 in
theorem w_X12_inSecond_4 {p : Program} {l : Launch} {e : Env} {s : State} {m : MethodId} {args : Array Value} {below : List Frame} {meth : Method} {c : Code} {s0 : State} {E : Ev} {z : Sh} {h : Hp} {n : Nat} {r : Int32} (G : Gl s0 E) (B : Bd p s0 s E m c cX12_inSecond 3 RX12) (hz : s0.heap.size ≤ z.sz) (hc0 : s.heap.size + 0 = z.sz) (hr : meth.sig.returnType = (some .int)) (hlk : meth.locks = false) : ∀ (i : Nat), ∀ (v0 : Nat) (v1 : Int32) (v2 : Int32) (H : Heap) (locs : List Loc) (ls : Array Slot), Pw s0 s E z h H locs → lv_has ls 3 [(0, .ref v0), (1, .int v1), (2, .int v2)] → f_X12_inSecond_4 n z h i v0 v1 v2 = some r → W p l e (rmO 0 0) s m args below meth c H locs 0 0 (Zt below s0 E z h (some (.int r)) args s 0 0) (F0 m 4 ls []) := by
  have hx := B.1
  have hb := B.2.1
  intro i
  induction i with
  | zero =>
    intro v0 v1 v2 H locs ls hw hl hf
    have hf := (f_X12_inSecond_4.eq_1 ..).symm.trans hf
    cases hf
  | succ i ih =>
    intro v0 v1 v2 H locs ls hw hl hf
    have hf := (f_X12_inSecond_4.eq_2 ..).symm.trans hf
    refine lv_iload_n hx hb dX12_inSecond_4 rfl (lv_at hl 2 rfl) ?_
    refine lv_aload_n hx hb dX12_inSecond_5 rfl (lv_at hl 0 rfl) ?_
    obtain ⟨a1, e, hf⟩ := ob hf
    refine q_getR e B hw fd_12_1.1 fd_12_1.2.1 fd_12_1.2.2.1 fd_12_1.2.2.2.1 fd_12_1.2.2.2.2 rfl tw_6_44 dX12_inSecond_6 ?_
    refine lv_iconst (v := 3) hx hb dX12_inSecond_9 (by decide) ?_
    obtain ⟨x2, e, hf⟩ := ob hf
    refine q_ldI e B hw dX12_inSecond_10 ?_
    refine lv_icmp_ge (tgt := 43) hx hb dX12_inSecond_11 (by decide) (fun c3 => ?_) (fun c3 => ?_)
    · have hf := (if_pos c3).symm.trans hf
      refine lv_iload_n hx hb dX12_inSecond_43 rfl (lv_at hl 1 rfl) ?_
      obtain rfl := so hf
      exact q_iret B hw hz hc0 hr hlk dX12_inSecond_44
    · have hf := (if_neg c3).symm.trans hf
      refine lv_iload_n hx hb dX12_inSecond_14 rfl (lv_at hl 1 rfl) ?_
      refine lv_aload_n hx hb dX12_inSecond_15 rfl (lv_at hl 0 rfl) ?_
      obtain ⟨a4, e, hf⟩ := ob hf
      refine q_getR e B hw fd_12_1.1 fd_12_1.2.1 fd_12_1.2.2.1 fd_12_1.2.2.2.1 fd_12_1.2.2.2.2 rfl tw_6_44 dX12_inSecond_16 ?_
      refine lv_bipush (v := 24) hx hb dX12_inSecond_19 (by decide) ?_
      refine lv_iload_n hx hb dX12_inSecond_21 rfl (lv_at hl 2 rfl) ?_
      refine lv_iadd hx hb dX12_inSecond_22 ?_
      obtain ⟨x5, e, hf⟩ := ob hf
      refine q_ldI e B hw dX12_inSecond_23 ?_
      refine lv_iconst (v := 2) hx hb dX12_inSecond_24 (by decide) ?_
      refine lv_icmp_ne (tgt := 34) hx hb dX12_inSecond_25 (by decide) (fun c6 => ?_) (fun c6 => ?_)
      · have hf := (if_neg c6).symm.trans hf
        refine lv_iconst (v := 0) hx hb dX12_inSecond_34 (by decide) ?_
        exact w_X12_inSecond_35 G B hz hc0 hr hlk ih v0 v2 0 v1 _ _ _ hw (lv_sub hl [0, 2] rfl) hf
      · have hf := (if_pos c6).symm.trans hf
        refine lv_iconst (v := 1) hx hb dX12_inSecond_28 (by decide) ?_
        refine lv_iload_n hx hb dX12_inSecond_29 rfl (lv_at hl 2 rfl) ?_
        refine lv_ishl hx hb dX12_inSecond_30 ?_
        refine lv_goto (tgt := 35) hx hb dX12_inSecond_31 (by decide) ?_
        exact w_X12_inSecond_35 G B hz hc0 hr hlk ih v0 v2 ((1 : Int32) <<< (v2 &&& 31)) v1 _ _ _ hw (lv_sub hl [0, 2] rfl) hf
set_option maxHeartbeats 4000000 in
theorem c_X12_inSecond {l : Launch} {s0 : State} {E : Ev} (G : Gl s0 E) {n : Nat} {z : Sh} {h : Hp} {v0 : Nat} {r : Int32} (hf : f_X12_inSecond n z h v0 = some r) : Ct l s0 E yX12_inSecond cX12_inSecond 3 (some .int) 0 0 [.ref v0] z h h (some (.int r)) := by
  refine Ct.of G (by decide) (Nat.le_of_ble_eq_true rfl) ?_
  intro p e s m below meth c ls B hw hz hc0 hr hlk hl
  have B : Bd p s0 s E m c cX12_inSecond 3 RX12 := B
  have hx := B.1
  have hb := B.2.1
  have hl : lv_has ls 3 [(0, .ref v0)] := hl
  unfold f_X12_inSecond at hf
  obtain ⟨_, hf⟩ := if_some hf
  refine lv_iconst (v := 0) hx hb dX12_inSecond_0 (by decide) ?_
  refine lv_istore_n (lv' := [(1, .int 0), (0, .ref v0)]) hx hb dX12_inSecond_1 rfl hl (by decide) rfl (fun ls hl => ?_)
  refine lv_iconst (v := 0) hx hb dX12_inSecond_2 (by decide) ?_
  refine lv_istore_n (lv' := [(2, .int 0), (1, .int 0), (0, .ref v0)]) hx hb dX12_inSecond_3 rfl hl (by decide) rfl (fun ls hl => ?_)
  exact w_X12_inSecond_4 G B hz hc0 hr hlk  n v0 0 0 _ _ _ hw (lv_sub hl [2, 1, 0] rfl) hf
/-! SecondLifeModel.judge(II)I -/
def f_X12_judge (n : Nat) (z : Sh) (h : Hp) (v0 : Nat) (v1 : Int32) (v2 : Int32) : Option (Int32 × Hp) :=
  if z.K v0 = 12 then
    (pI z h 12 v0 0 0).bind fun h1 =>
    (f_X12_within z h1 (Int32.toInt64 v2) 0 3).bind fun x2 =>
    if x2 = 0 then
      some (((-99000002) : Int32), h1)
    else
      (f_X12_noTray z h1 v0 v1).bind fun x4 =>
      if x4 = 0 then
        (f_X12_keeps n z h1 v0).bind fun h6 =>
        (f_X12_tells n z h6 v0 v1).bind fun (x7, h8) =>
        (f_X12_hasAll n z h8 v0).bind fun x9 =>
        (f_X12_inSecond n z h8 v0).bind fun x10 =>
        (f_X12_isAgain n z h8 v0).bind fun h11 =>
        if v2 = 0 then
          (gI z h11 12 v0 19).bind fun x16 =>
          if x16 = 0 then
            some (((-1) : Int32), h11)
          else
            some (x7, h11)
        else
          if v2 = 1 then
            (gI z h11 12 v0 19).bind fun x15 =>
            some (x15, h11)
          else
            if v2 = 2 then
              some (x9, h11)
            else
              some (x10, h11)
      else
        some (x4, h1)
  else none
theorem k_X12_judge {n : Nat} {z : Sh} {h : Hp} {v0 : Nat} {v1 : Int32} {v2 : Int32} {w : Int32 × Hp} (hf : f_X12_judge n z h v0 v1 v2 = some w) : z.K v0 = 12 := by
  unfold f_X12_judge at hf
  exact (if_some hf).1
set_option maxHeartbeats 4000000 in
theorem c_X12_judge {l : Launch} {s0 : State} {E : Ev} (G : Gl s0 E) {n : Nat} {z : Sh} {h : Hp} {v0 : Nat} {v1 : Int32} {v2 : Int32} {r : Int32} {h' : Hp} (hf : f_X12_judge n z h v0 v1 v2 = some (r, h')) : Ct l s0 E yX12_judge cX12_judge 7 (some .int) 7 157 [.ref v0, .int v1, .int v2] z h h' (some (.int r)) := by
  refine Ct.of G (by decide) (Nat.le_of_ble_eq_true rfl) ?_
  intro p e s m below meth c ls B hw hz hc0 hr hlk hl
  have B : Bd p s0 s E m c cX12_judge 7 RX12 := B
  have hx := B.1
  have hb := B.2.1
  have hl : lv_has ls 7 [(0, .ref v0), (1, .int v1), (2, .int v2)] := hl
  unfold f_X12_judge at hf
  obtain ⟨_, hf⟩ := if_some hf
  refine lv_aload_n hx hb dX12_judge_0 rfl (lv_at hl 0 rfl) ?_
  refine lv_iconst (v := 0) hx hb dX12_judge_1 (by decide) ?_
  obtain ⟨h1, e, hf⟩ := ob hf
  refine q_putI e B hw fd_12_0.1 fd_12_0.2.1 fd_12_0.2.2.1 fd_12_0.2.2.2.1 fd_12_0.2.2.2.2 rfl rfl (tyX12_ok 0 (by decide)) tyX12 tyX12_ok nmX12 tw_6_43 dX12_judge_2 (fun H locs hw => ?_)
  refine lv_iload_n hx hb dX12_judge_5 rfl (lv_at hl 2 rfl) ?_
  refine lv_i2l (v := (Int32.toInt64 v2)) hx hb dX12_judge_6 rfl ?_
  refine lv_lconst (v := 0) hx hb dX12_judge_7 (by decide) ?_
  refine lv_ldc2 hx hb B.2.2.2.1 (B.w tw_7_175 rfl) dX12_judge_8 ?_
  obtain ⟨x2, e, hf⟩ := ob hf
  refine q_callS (As := [.long (Int32.toInt64 v2), .long 0, .long 3]) (rest := []) (st1 := [.int x2]) (c_X12_within G e) B hw hz hc0 my_X12_within mv_X12_within tw_6_162 ⟨Nat.le_of_ble_eq_true rfl, Nat.le_of_ble_eq_true rfl⟩ ⟨Nat.zero_le _, Nat.zero_le _⟩ rfl hl.1 rfl rfl (Nat.le_of_ble_eq_true rfl) dX12_judge_11 (fun H locs hw => ?_)
  refine lv_if_ne (tgt := 20) hx hb dX12_judge_14 (by decide) (fun c3 => ?_) (fun c3 => ?_)
  · have hf := (if_neg c3).symm.trans hf
    refine lv_aload_n hx hb dX12_judge_20 rfl (lv_at hl 0 rfl) ?_
    refine lv_iload_n hx hb dX12_judge_21 rfl (lv_at hl 1 rfl) ?_
    obtain ⟨x4, e, hf⟩ := ob hf
    refine q_callV (As := [.int v1]) (rest := []) (st1 := [.int x4]) (c_X12_noTray G e) B hw hz hc0 (k_X12_noTray e) (by decide) (ci := 12) rfl rfl my_X12_noTray mv_X12_noTray tw_7_176 ⟨Nat.le_of_ble_eq_true rfl, Nat.le_of_ble_eq_true rfl⟩ ⟨Nat.zero_le _, Nat.zero_le _⟩ rfl hl.1 rfl rfl (Nat.le_of_ble_eq_true rfl) dX12_judge_22 (fun H locs hw => ?_)
    refine lv_istore_n (lv' := [(3, .int x4), (0, .ref v0), (1, .int v1), (2, .int v2)]) hx hb dX12_judge_25 rfl hl (by decide) rfl (fun ls hl => ?_)
    refine lv_iload_n hx hb dX12_judge_26 rfl (lv_at hl 0 rfl) ?_
    refine lv_if_eq (tgt := 32) hx hb dX12_judge_27 (by decide) (fun c5 => ?_) (fun c5 => ?_)
    · have hf := (if_pos c5).symm.trans hf
      refine lv_aload_n hx hb dX12_judge_32 rfl (lv_at hl 1 rfl) ?_
      obtain ⟨h6, e, hf⟩ := ob hf
      refine q_callV (As := []) (rest := []) (st1 := []) (c_X12_keeps G e) B hw hz hc0 (k_X12_keeps e) (by decide) (ci := 12) rfl rfl my_X12_keeps mv_X12_keeps tw_7_104 ⟨Nat.le_of_ble_eq_true rfl, Nat.le_of_ble_eq_true rfl⟩ ⟨Nat.zero_le _, Nat.zero_le _⟩ rfl hl.1 rfl rfl (Nat.le_of_ble_eq_true rfl) dX12_judge_33 (fun H locs hw => ?_)
      refine lv_aload_n hx hb dX12_judge_36 rfl (lv_at hl 1 rfl) ?_
      refine lv_iload_n hx hb dX12_judge_37 rfl (lv_at hl 2 rfl) ?_
      obtain ⟨⟨x7, h8⟩, e, hf⟩ := ob hf
      refine q_callV (As := [.int v1]) (rest := []) (st1 := [.int x7]) (c_X12_tells G e) B hw hz hc0 (k_X12_tells e) (by decide) (ci := 12) rfl rfl my_X12_tells mv_X12_tells tw_7_181 ⟨Nat.le_of_ble_eq_true rfl, Nat.le_of_ble_eq_true rfl⟩ ⟨Nat.zero_le _, Nat.zero_le _⟩ rfl hl.1 rfl rfl (Nat.le_of_ble_eq_true rfl) dX12_judge_38 (fun H locs hw => ?_)
      refine lv_istore (lv' := [(4, .int x7), (3, .int x4), (0, .ref v0), (1, .int v1), (2, .int v2)]) hx hb dX12_judge_41 hl (by decide) rfl (fun ls hl => ?_)
      refine lv_aload_n hx hb dX12_judge_43 rfl (lv_at hl 2 rfl) ?_
      obtain ⟨x9, e, hf⟩ := ob hf
      refine q_callV (As := []) (rest := []) (st1 := [.int x9]) (c_X12_hasAll G e) B hw hz hc0 (k_X12_hasAll e) (by decide) (ci := 12) rfl rfl my_X12_hasAll mv_X12_hasAll tw_7_199 ⟨Nat.le_of_ble_eq_true rfl, Nat.le_of_ble_eq_true rfl⟩ ⟨Nat.zero_le _, Nat.zero_le _⟩ rfl hl.1 rfl rfl (Nat.le_of_ble_eq_true rfl) dX12_judge_44 (fun H locs hw => ?_)
      refine lv_istore (lv' := [(5, .int x9), (4, .int x7), (3, .int x4), (0, .ref v0), (1, .int v1), (2, .int v2)]) hx hb dX12_judge_47 hl (by decide) rfl (fun ls hl => ?_)
      refine lv_aload_n hx hb dX12_judge_49 rfl (lv_at hl 3 rfl) ?_
      obtain ⟨x10, e, hf⟩ := ob hf
      refine q_callV (As := []) (rest := []) (st1 := [.int x10]) (c_X12_inSecond G e) B hw hz hc0 (k_X12_inSecond e) (by decide) (ci := 12) rfl rfl my_X12_inSecond mv_X12_inSecond tw_7_203 ⟨Nat.le_of_ble_eq_true rfl, Nat.le_of_ble_eq_true rfl⟩ ⟨Nat.zero_le _, Nat.zero_le _⟩ rfl hl.1 rfl rfl (Nat.le_of_ble_eq_true rfl) dX12_judge_50 (fun H locs hw => ?_)
      refine lv_istore (lv' := [(6, .int x10), (5, .int x9), (4, .int x7), (3, .int x4), (0, .ref v0), (1, .int v1), (2, .int v2)]) hx hb dX12_judge_53 hl (by decide) rfl (fun ls hl => ?_)
      refine lv_aload_n hx hb dX12_judge_55 rfl (lv_at hl 4 rfl) ?_
      obtain ⟨h11, e, hf⟩ := ob hf
      refine q_callV (As := []) (rest := []) (st1 := []) (c_X12_isAgain G e) B hw hz hc0 (k_X12_isAgain e) (by decide) (ci := 12) rfl rfl my_X12_isAgain mv_X12_isAgain tw_7_207 ⟨Nat.le_of_ble_eq_true rfl, Nat.le_of_ble_eq_true rfl⟩ ⟨Nat.zero_le _, Nat.zero_le _⟩ rfl hl.1 rfl rfl (Nat.le_of_ble_eq_true rfl) dX12_judge_56 (fun H locs hw => ?_)
      refine lv_iload_n hx hb dX12_judge_59 rfl (lv_at hl 6 rfl) ?_
      refine lv_if_ne (tgt := 79) hx hb dX12_judge_60 (by decide) (fun c12 => ?_) (fun c12 => ?_)
      · have hf := (if_neg c12).symm.trans hf
        refine lv_iload_n hx hb dX12_judge_79 rfl (lv_at hl 6 rfl) ?_
        refine lv_iconst (v := 1) hx hb dX12_judge_80 (by decide) ?_
        refine lv_icmp_ne (tgt := 91) hx hb dX12_judge_81 (by decide) (fun c13 => ?_) (fun c13 => ?_)
        · have hf := (if_neg c13).symm.trans hf
          refine lv_iload_n hx hb dX12_judge_91 rfl (lv_at hl 6 rfl) ?_
          refine lv_iconst (v := 2) hx hb dX12_judge_92 (by decide) ?_
          refine lv_icmp_ne (tgt := 101) hx hb dX12_judge_93 (by decide) (fun c14 => ?_) (fun c14 => ?_)
          · have hf := (if_neg c14).symm.trans hf
            refine lv_iload hx hb dX12_judge_101 (lv_at hl 0 rfl) ?_
            obtain ⟨rfl, rfl⟩ := so2 hf
            exact q_iret B hw hz hc0 hr hlk dX12_judge_103
          · have hf := (if_pos c14).symm.trans hf
            refine lv_iload hx hb dX12_judge_96 (lv_at hl 1 rfl) ?_
            refine lv_goto (tgt := 103) hx hb dX12_judge_98 (by decide) ?_
            obtain ⟨rfl, rfl⟩ := so2 hf
            exact q_iret B hw hz hc0 hr hlk dX12_judge_103
        · have hf := (if_pos c13).symm.trans hf
          refine lv_aload_n hx hb dX12_judge_84 rfl (lv_at hl 4 rfl) ?_
          obtain ⟨x15, e, hf⟩ := ob hf
          refine q_getI e B hw fd_12_19.1 fd_12_19.2.1 fd_12_19.2.2.1 fd_12_19.2.2.2.1 fd_12_19.2.2.2.2 rfl tw_6_62 dX12_judge_85 ?_
          refine lv_goto (tgt := 103) hx hb dX12_judge_88 (by decide) ?_
          obtain ⟨rfl, rfl⟩ := so2 hf
          exact q_iret B hw hz hc0 hr hlk dX12_judge_103
      · have hf := (if_pos c12).symm.trans hf
        refine lv_aload_n hx hb dX12_judge_63 rfl (lv_at hl 4 rfl) ?_
        obtain ⟨x16, e, hf⟩ := ob hf
        refine q_getI e B hw fd_12_19.1 fd_12_19.2.1 fd_12_19.2.2.1 fd_12_19.2.2.2.1 fd_12_19.2.2.2.2 rfl tw_6_62 dX12_judge_64 ?_
        refine lv_if_ne (tgt := 74) hx hb dX12_judge_67 (by decide) (fun c17 => ?_) (fun c17 => ?_)
        · have hf := (if_neg c17).symm.trans hf
          refine lv_iload hx hb dX12_judge_74 (lv_at hl 2 rfl) ?_
          refine lv_goto (tgt := 103) hx hb dX12_judge_76 (by decide) ?_
          obtain ⟨rfl, rfl⟩ := so2 hf
          exact q_iret B hw hz hc0 hr hlk dX12_judge_103
        · have hf := (if_pos c17).symm.trans hf
          refine lv_iconst (v := (-1)) hx hb dX12_judge_70 (by decide) ?_
          refine lv_goto (tgt := 103) hx hb dX12_judge_71 (by decide) ?_
          obtain ⟨rfl, rfl⟩ := so2 hf
          exact q_iret B hw hz hc0 hr hlk dX12_judge_103
    · have hf := (if_neg c5).symm.trans hf
      refine lv_iload_n hx hb dX12_judge_30 rfl (lv_at hl 0 rfl) ?_
      obtain ⟨rfl, rfl⟩ := so2 hf
      exact q_iret B hw hz hc0 hr hlk dX12_judge_31
  · have hf := (if_pos c3).symm.trans hf
    refine lv_ldc hx hb B.2.2.2.1 (B.w tw_7_39 rfl) dX12_judge_17 ?_
    obtain ⟨rfl, rfl⟩ := so2 hf
    exact q_iret B hw hz hc0 hr hlk dX12_judge_19
/-! SecondLifeModel.perform(I)I -/
def f_X12_perform (n : Nat) (z : Sh) (h : Hp) (v0 : Nat) (v1 : Int32) : Option (Int32 × Hp) :=
  if z.K v0 = 12 then
    (pI z h 12 v0 0 0).bind fun h1 =>
    (f_X12_noTray z h1 v0 v1).bind fun x2 =>
    if x2 = 0 then
      (f_X12_keeps n z h1 v0).bind fun h4 =>
      (f_X12_tells n z h4 v0 v1).bind fun (x5, h6) =>
      if x5 ≤ 0 then
        some (x5, h6)
      else
        (f_X12_notes n z h6 v0).bind fun h8 =>
        some (x5, h8)
    else
      some (x2, h1)
  else none
theorem k_X12_perform {n : Nat} {z : Sh} {h : Hp} {v0 : Nat} {v1 : Int32} {w : Int32 × Hp} (hf : f_X12_perform n z h v0 v1 = some w) : z.K v0 = 12 := by
  unfold f_X12_perform at hf
  exact (if_some hf).1
set_option maxHeartbeats 4000000 in
theorem c_X12_perform {l : Launch} {s0 : State} {E : Ev} (G : Gl s0 E) {n : Nat} {z : Sh} {h : Hp} {v0 : Nat} {v1 : Int32} {r : Int32} {h' : Hp} (hf : f_X12_perform n z h v0 v1 = some (r, h')) : Ct l s0 E yX12_perform cX12_perform 4 (some .int) 7 157 [.ref v0, .int v1] z h h' (some (.int r)) := by
  refine Ct.of G (by decide) (Nat.le_of_ble_eq_true rfl) ?_
  intro p e s m below meth c ls B hw hz hc0 hr hlk hl
  have B : Bd p s0 s E m c cX12_perform 4 RX12 := B
  have hx := B.1
  have hb := B.2.1
  have hl : lv_has ls 4 [(0, .ref v0), (1, .int v1)] := hl
  unfold f_X12_perform at hf
  obtain ⟨_, hf⟩ := if_some hf
  refine lv_aload_n hx hb dX12_perform_0 rfl (lv_at hl 0 rfl) ?_
  refine lv_iconst (v := 0) hx hb dX12_perform_1 (by decide) ?_
  obtain ⟨h1, e, hf⟩ := ob hf
  refine q_putI e B hw fd_12_0.1 fd_12_0.2.1 fd_12_0.2.2.1 fd_12_0.2.2.2.1 fd_12_0.2.2.2.2 rfl rfl (tyX12_ok 0 (by decide)) tyX12 tyX12_ok nmX12 tw_6_43 dX12_perform_2 (fun H locs hw => ?_)
  refine lv_aload_n hx hb dX12_perform_5 rfl (lv_at hl 0 rfl) ?_
  refine lv_iload_n hx hb dX12_perform_6 rfl (lv_at hl 1 rfl) ?_
  obtain ⟨x2, e, hf⟩ := ob hf
  refine q_callV (As := [.int v1]) (rest := []) (st1 := [.int x2]) (c_X12_noTray G e) B hw hz hc0 (k_X12_noTray e) (by decide) (ci := 12) rfl rfl my_X12_noTray mv_X12_noTray tw_7_176 ⟨Nat.le_of_ble_eq_true rfl, Nat.le_of_ble_eq_true rfl⟩ ⟨Nat.zero_le _, Nat.zero_le _⟩ rfl hl.1 rfl rfl (Nat.le_of_ble_eq_true rfl) dX12_perform_7 (fun H locs hw => ?_)
  refine lv_istore_n (lv' := [(2, .int x2), (0, .ref v0), (1, .int v1)]) hx hb dX12_perform_10 rfl hl (by decide) rfl (fun ls hl => ?_)
  refine lv_iload_n hx hb dX12_perform_11 rfl (lv_at hl 0 rfl) ?_
  refine lv_if_eq (tgt := 17) hx hb dX12_perform_12 (by decide) (fun c3 => ?_) (fun c3 => ?_)
  · have hf := (if_pos c3).symm.trans hf
    refine lv_aload_n hx hb dX12_perform_17 rfl (lv_at hl 1 rfl) ?_
    obtain ⟨h4, e, hf⟩ := ob hf
    refine q_callV (As := []) (rest := []) (st1 := []) (c_X12_keeps G e) B hw hz hc0 (k_X12_keeps e) (by decide) (ci := 12) rfl rfl my_X12_keeps mv_X12_keeps tw_7_104 ⟨Nat.le_of_ble_eq_true rfl, Nat.le_of_ble_eq_true rfl⟩ ⟨Nat.zero_le _, Nat.zero_le _⟩ rfl hl.1 rfl rfl (Nat.le_of_ble_eq_true rfl) dX12_perform_18 (fun H locs hw => ?_)
    refine lv_aload_n hx hb dX12_perform_21 rfl (lv_at hl 1 rfl) ?_
    refine lv_iload_n hx hb dX12_perform_22 rfl (lv_at hl 2 rfl) ?_
    obtain ⟨⟨x5, h6⟩, e, hf⟩ := ob hf
    refine q_callV (As := [.int v1]) (rest := []) (st1 := [.int x5]) (c_X12_tells G e) B hw hz hc0 (k_X12_tells e) (by decide) (ci := 12) rfl rfl my_X12_tells mv_X12_tells tw_7_181 ⟨Nat.le_of_ble_eq_true rfl, Nat.le_of_ble_eq_true rfl⟩ ⟨Nat.zero_le _, Nat.zero_le _⟩ rfl hl.1 rfl rfl (Nat.le_of_ble_eq_true rfl) dX12_perform_23 (fun H locs hw => ?_)
    refine lv_istore_n (lv' := [(3, .int x5), (2, .int x2), (0, .ref v0), (1, .int v1)]) hx hb dX12_perform_26 rfl hl (by decide) rfl (fun ls hl => ?_)
    refine lv_iload_n hx hb dX12_perform_27 rfl (lv_at hl 0 rfl) ?_
    refine lv_if_le (tgt := 35) hx hb dX12_perform_28 (by decide) (fun c7 => ?_) (fun c7 => ?_)
    · have hf := (if_pos c7).symm.trans hf
      refine lv_iload_n hx hb dX12_perform_35 rfl (lv_at hl 0 rfl) ?_
      obtain ⟨rfl, rfl⟩ := so2 hf
      exact q_iret B hw hz hc0 hr hlk dX12_perform_36
    · have hf := (if_neg c7).symm.trans hf
      refine lv_aload_n hx hb dX12_perform_31 rfl (lv_at hl 2 rfl) ?_
      obtain ⟨h8, e, hf⟩ := ob hf
      refine q_callV (As := []) (rest := []) (st1 := []) (c_X12_notes G e) B hw hz hc0 (k_X12_notes e) (by decide) (ci := 12) rfl rfl my_X12_notes mv_X12_notes tw_7_119 ⟨Nat.le_of_ble_eq_true rfl, Nat.le_of_ble_eq_true rfl⟩ ⟨Nat.zero_le _, Nat.zero_le _⟩ rfl hl.1 rfl rfl (Nat.le_of_ble_eq_true rfl) dX12_perform_32 (fun H locs hw => ?_)
      refine lv_iload_n hx hb dX12_perform_35 rfl (lv_at hl 0 rfl) ?_
      obtain ⟨rfl, rfl⟩ := so2 hf
      exact q_iret B hw hz hc0 hr hlk dX12_perform_36
  · have hf := (if_neg c3).symm.trans hf
    refine lv_iload_n hx hb dX12_perform_15 rfl (lv_at hl 0 rfl) ?_
    obtain ⟨rfl, rfl⟩ := so2 hf
    exact q_iret B hw hz hc0 hr hlk dX12_perform_16
/-! SecondLifeModel.lot(I)I -/
def f_X12_lot (z : Sh) (h : Hp) (v0 : Nat) (v1 : Int32) : Option (Int32 × Hp) :=
  if z.K v0 = 12 then
    (gI z h 12 v0 20).bind fun x1 =>
    (pI z h 12 v0 20 ((1103515245 * x1) + 12345)).bind fun h2 =>
    (gI z h2 12 v0 20).bind fun x3 =>
    (rmI ((Int32.toUInt32 x3 >>> (Int32.toUInt32 16 &&& Int32.toUInt32 31)).toInt32) v1).bind fun x4 =>
    some (x4, h2)
  else none
theorem k_X12_lot {z : Sh} {h : Hp} {v0 : Nat} {v1 : Int32} {w : Int32 × Hp} (hf : f_X12_lot z h v0 v1 = some w) : z.K v0 = 12 := by
  unfold f_X12_lot at hf
  exact (if_some hf).1
set_option maxHeartbeats 4000000 in
theorem c_X12_lot {l : Launch} {s0 : State} {E : Ev} (G : Gl s0 E) {z : Sh} {h : Hp} {v0 : Nat} {v1 : Int32} {r : Int32} {h' : Hp} (hf : f_X12_lot z h v0 v1 = some (r, h')) : Ct l s0 E yX12_lot cX12_lot 2 (some .int) 0 0 [.ref v0, .int v1] z h h' (some (.int r)) := by
  refine Ct.of G (by decide) (Nat.le_of_ble_eq_true rfl) ?_
  intro p e s m below meth c ls B hw hz hc0 hr hlk hl
  have B : Bd p s0 s E m c cX12_lot 2 RX12 := B
  have hx := B.1
  have hb := B.2.1
  have hl : lv_has ls 2 [(0, .ref v0), (1, .int v1)] := hl
  unfold f_X12_lot at hf
  obtain ⟨_, hf⟩ := if_some hf
  refine lv_aload_n hx hb dX12_lot_0 rfl (lv_at hl 0 rfl) ?_
  refine lv_ldcw hx hb B.2.2.2.1 (B.w tw_7_228 rfl) dX12_lot_1 ?_
  refine lv_aload_n hx hb dX12_lot_4 rfl (lv_at hl 0 rfl) ?_
  obtain ⟨x1, e, hf⟩ := ob hf
  refine q_getI e B hw fd_12_20.1 fd_12_20.2.1 fd_12_20.2.2.1 fd_12_20.2.2.2.1 fd_12_20.2.2.2.2 rfl tw_6_63 dX12_lot_5 ?_
  refine lv_imul hx hb dX12_lot_8 ?_
  refine lv_sipush (v := 12345) hx hb dX12_lot_9 (by decide) ?_
  refine lv_iadd hx hb dX12_lot_12 ?_
  obtain ⟨h2, e, hf⟩ := ob hf
  refine q_putI e B hw fd_12_20.1 fd_12_20.2.1 fd_12_20.2.2.1 fd_12_20.2.2.2.1 fd_12_20.2.2.2.2 rfl rfl (tyX12_ok 20 (by decide)) tyX12 tyX12_ok nmX12 tw_6_63 dX12_lot_13 (fun H locs hw => ?_)
  refine lv_aload_n hx hb dX12_lot_16 rfl (lv_at hl 0 rfl) ?_
  obtain ⟨x3, e, hf⟩ := ob hf
  refine q_getI e B hw fd_12_20.1 fd_12_20.2.1 fd_12_20.2.2.1 fd_12_20.2.2.2.1 fd_12_20.2.2.2.2 rfl tw_6_63 dX12_lot_17 ?_
  refine lv_bipush (v := 16) hx hb dX12_lot_20 (by decide) ?_
  refine lv_iushr (v := (Int32.toUInt32 x3 >>> (Int32.toUInt32 16 &&& Int32.toUInt32 31)).toInt32) hx hb dX12_lot_22 rfl ?_
  refine lv_iload_n hx hb dX12_lot_23 rfl (lv_at hl 1 rfl) ?_
  obtain ⟨x4, e, hf⟩ := ob hf
  refine q_irem e hx hb dX12_lot_24 ?_
  obtain ⟨rfl, rfl⟩ := so2 hf
  exact q_iret B hw hz hc0 hr hlk dX12_lot_25
/-! SecondLifeModel.drawn()I -/
def f_X12_drawn (z : Sh) (h : Hp) (v0 : Nat) : Option (Int32 × Hp) :=
  if z.K v0 = 12 then
    (f_X12_lot z h v0 6).bind fun (x1, h2) =>
    (f_X12_lot z h2 v0 6).bind fun (x3, h4) =>
    if 4 ≤ x1 then
      if x1 = 4 then
        some ((100 + x3), h4)
      else
        (f_X12_lot z h4 v0 9).bind fun (x7, h8) =>
        some (((1001 + (100 * x3)) + x7), h8)
    else
      (f_X12_lot z h4 v0 4).bind fun (x9, h10) =>
      some (((10 * x3) + x9), h10)
  else none
theorem k_X12_drawn {z : Sh} {h : Hp} {v0 : Nat} {w : Int32 × Hp} (hf : f_X12_drawn z h v0 = some w) : z.K v0 = 12 := by
  unfold f_X12_drawn at hf
  exact (if_some hf).1
set_option maxHeartbeats 4000000 in
theorem c_X12_drawn {l : Launch} {s0 : State} {E : Ev} (G : Gl s0 E) {z : Sh} {h : Hp} {v0 : Nat} {r : Int32} {h' : Hp} (hf : f_X12_drawn z h v0 = some (r, h')) : Ct l s0 E yX12_drawn cX12_drawn 3 (some .int) 1 21 [.ref v0] z h h' (some (.int r)) := by
  refine Ct.of G (by decide) (Nat.le_of_ble_eq_true rfl) ?_
  intro p e s m below meth c ls B hw hz hc0 hr hlk hl
  have B : Bd p s0 s E m c cX12_drawn 3 RX12 := B
  have hx := B.1
  have hb := B.2.1
  have hl : lv_has ls 3 [(0, .ref v0)] := hl
  unfold f_X12_drawn at hf
  obtain ⟨_, hf⟩ := if_some hf
  refine lv_aload_n hx hb dX12_drawn_0 rfl (lv_at hl 0 rfl) ?_
  refine lv_bipush (v := 6) hx hb dX12_drawn_1 (by decide) ?_
  obtain ⟨⟨x1, h2⟩, e, hf⟩ := ob hf
  refine q_callV (As := [.int 6]) (rest := []) (st1 := [.int x1]) (c_X12_lot G e) B hw hz hc0 (k_X12_lot e) (by decide) (ci := 12) rfl rfl my_X12_lot mv_X12_lot tw_7_224 ⟨Nat.le_of_ble_eq_true rfl, Nat.le_of_ble_eq_true rfl⟩ ⟨Nat.zero_le _, Nat.zero_le _⟩ rfl hl.1 rfl rfl (Nat.le_of_ble_eq_true rfl) dX12_drawn_3 (fun H locs hw => ?_)
  refine lv_istore_n (lv' := [(1, .int x1), (0, .ref v0)]) hx hb dX12_drawn_6 rfl hl (by decide) rfl (fun ls hl => ?_)
  refine lv_aload_n hx hb dX12_drawn_7 rfl (lv_at hl 1 rfl) ?_
  refine lv_bipush (v := 6) hx hb dX12_drawn_8 (by decide) ?_
  obtain ⟨⟨x3, h4⟩, e, hf⟩ := ob hf
  refine q_callV (As := [.int 6]) (rest := []) (st1 := [.int x3]) (c_X12_lot G e) B hw hz hc0 (k_X12_lot e) (by decide) (ci := 12) rfl rfl my_X12_lot mv_X12_lot tw_7_224 ⟨Nat.le_of_ble_eq_true rfl, Nat.le_of_ble_eq_true rfl⟩ ⟨Nat.zero_le _, Nat.zero_le _⟩ rfl hl.1 rfl rfl (Nat.le_of_ble_eq_true rfl) dX12_drawn_10 (fun H locs hw => ?_)
  refine lv_istore_n (lv' := [(2, .int x3), (1, .int x1), (0, .ref v0)]) hx hb dX12_drawn_13 rfl hl (by decide) rfl (fun ls hl => ?_)
  refine lv_iload_n hx hb dX12_drawn_14 rfl (lv_at hl 1 rfl) ?_
  refine lv_iconst (v := 4) hx hb dX12_drawn_15 (by decide) ?_
  refine lv_icmp_ge (tgt := 32) hx hb dX12_drawn_16 (by decide) (fun c5 => ?_) (fun c5 => ?_)
  · have hf := (if_pos c5).symm.trans hf
    refine lv_iload_n hx hb dX12_drawn_32 rfl (lv_at hl 1 rfl) ?_
    refine lv_iconst (v := 4) hx hb dX12_drawn_33 (by decide) ?_
    refine lv_icmp_ne (tgt := 44) hx hb dX12_drawn_34 (by decide) (fun c6 => ?_) (fun c6 => ?_)
    · have hf := (if_neg c6).symm.trans hf
      refine lv_sipush (v := 1001) hx hb dX12_drawn_44 (by decide) ?_
      refine lv_bipush (v := 100) hx hb dX12_drawn_47 (by decide) ?_
      refine lv_iload_n hx hb dX12_drawn_49 rfl (lv_at hl 0 rfl) ?_
      refine lv_imul hx hb dX12_drawn_50 ?_
      refine lv_iadd hx hb dX12_drawn_51 ?_
      refine lv_aload_n hx hb dX12_drawn_52 rfl (lv_at hl 2 rfl) ?_
      refine lv_bipush (v := 9) hx hb dX12_drawn_53 (by decide) ?_
      obtain ⟨⟨x7, h8⟩, e, hf⟩ := ob hf
      refine q_callV (As := [.int 9]) (rest := [.int (1001 + (100 * x3))]) (st1 := [.int x7, .int (1001 + (100 * x3))]) (c_X12_lot G e) B hw hz hc0 (k_X12_lot e) (by decide) (ci := 12) rfl rfl my_X12_lot mv_X12_lot tw_7_224 ⟨Nat.le_of_ble_eq_true rfl, Nat.le_of_ble_eq_true rfl⟩ ⟨Nat.zero_le _, Nat.zero_le _⟩ rfl hl.1 rfl rfl (Nat.le_of_ble_eq_true rfl) dX12_drawn_55 (fun H locs hw => ?_)
      refine lv_iadd hx hb dX12_drawn_58 ?_
      obtain ⟨rfl, rfl⟩ := so2 hf
      exact q_iret B hw hz hc0 hr hlk dX12_drawn_59
    · have hf := (if_pos c6).symm.trans hf
      refine lv_bipush (v := 100) hx hb dX12_drawn_37 (by decide) ?_
      refine lv_iload_n hx hb dX12_drawn_39 rfl (lv_at hl 0 rfl) ?_
      refine lv_iadd hx hb dX12_drawn_40 ?_
      refine lv_goto (tgt := 59) hx hb dX12_drawn_41 (by decide) ?_
      obtain ⟨rfl, rfl⟩ := so2 hf
      exact q_iret B hw hz hc0 hr hlk dX12_drawn_59
  · have hf := (if_neg c5).symm.trans hf
    refine lv_bipush (v := 10) hx hb dX12_drawn_19 (by decide) ?_
    refine lv_iload_n hx hb dX12_drawn_21 rfl (lv_at hl 0 rfl) ?_
    refine lv_imul hx hb dX12_drawn_22 ?_
    refine lv_aload_n hx hb dX12_drawn_23 rfl (lv_at hl 2 rfl) ?_
    refine lv_iconst (v := 4) hx hb dX12_drawn_24 (by decide) ?_
    obtain ⟨⟨x9, h10⟩, e, hf⟩ := ob hf
    refine q_callV (As := [.int 4]) (rest := [.int (10 * x3)]) (st1 := [.int x9, .int (10 * x3)]) (c_X12_lot G e) B hw hz hc0 (k_X12_lot e) (by decide) (ci := 12) rfl rfl my_X12_lot mv_X12_lot tw_7_224 ⟨Nat.le_of_ble_eq_true rfl, Nat.le_of_ble_eq_true rfl⟩ ⟨Nat.zero_le _, Nat.zero_le _⟩ rfl hl.1 rfl rfl (Nat.le_of_ble_eq_true rfl) dX12_drawn_25 (fun H locs hw => ?_)
    refine lv_iadd hx hb dX12_drawn_28 ?_
    refine lv_goto (tgt := 59) hx hb dX12_drawn_29 (by decide) ?_
    obtain ⟨rfl, rfl⟩ := so2 hf
    exact q_iret B hw hz hc0 hr hlk dX12_drawn_59
/-! SecondLifeModel.season(II)I -/
def f_X12_season_68 (n : Nat) (z : Sh) (k34 : Hp → Nat → Int32 → Int32 → Int32 → Option (Int32 × Hp)) (h : Hp) (v0 : Nat) (v2 : Int32) (v3 : Int32) (v4 : Int32) : Option (Int32 × Hp) :=
  (some (v4 + 1)).bind fun x1 =>
  k34 h v0 v2 v3 x1
def f_X12_season_34 (n : Nat) (z : Sh) : Nat → Hp → Nat → Int32 → Int32 → Int32 → Option (Int32 × Hp)
  | 0, _, _, _, _, _ => none
  | i + 1, h, v0, v2, v3, v4 =>
    if v2 ≤ v4 then
      if v3 ≤ 0 then
        some (v3, h)
      else
        (f_X12_notes n z h v0).bind fun h3 =>
        some (v3, h3)
    else
      (f_X12_drawn z h v0).bind fun (x4, h5) =>
      (f_X12_whyNot z h5 v0 (Int32.toInt64 x4)).bind fun x6 =>
      if x6 = 0 then
        (f_X12_does n z h5 v0 x4).bind fun h8 =>
        (some (v3 + 1)).bind fun x9 =>
        f_X12_season_68 n z (f_X12_season_34 n z i) h8 v0 v2 x9 v4
      else
        f_X12_season_68 n z (f_X12_season_34 n z i) h5 v0 v2 v3 v4
def f_X12_season (n : Nat) (z : Sh) (h : Hp) (v0 : Nat) (v1 : Int32) (v2 : Int32) : Option (Int32 × Hp) :=
  if z.K v0 = 12 then
    (pI z h 12 v0 0 0).bind fun h1 =>
    (f_X12_within z h1 (Int32.toInt64 v2) 1 40).bind fun x2 =>
    if x2 = 0 then
      some (((-99000003) : Int32), h1)
    else
      (f_X12_keeps n z h1 v0).bind fun h4 =>
      (pI z h4 12 v0 20 v1).bind fun h5 =>
      f_X12_season_34 n z n h5 v0 v2 0 0
  else none
theorem k_X12_season {n : Nat} {z : Sh} {h : Hp} {v0 : Nat} {v1 : Int32} {v2 : Int32} {w : Int32 × Hp} (hf : f_X12_season n z h v0 v1 v2 = some w) : z.K v0 = 12 := by
  unfold f_X12_season at hf
  exact (if_some hf).1
set_option maxHeartbeats 4000000 in
theorem w_X12_season_68 {p : Program} {l : Launch} {e : Env} {s : State} {m : MethodId} {args : Array Value} {below : List Frame} {meth : Method} {c : Code} {s0 : State} {E : Ev} {z : Sh} {n : Nat} {k34 : Hp → Nat → Int32 → Int32 → Int32 → Option (Int32 × Hp)} {r : Int32} {h' : Hp} (G : Gl s0 E) (B : Bd p s0 s E m c cX12_season 6 RX12) (hz : s0.heap.size ≤ z.sz) (hc0 : s.heap.size + 0 = z.sz) (hr : meth.sig.returnType = (some .int)) (hlk : meth.locks = false) (hk34 : ∀ (h : Hp) (v0 : Nat) (v2 : Int32) (v3 : Int32) (v4 : Int32) (H : Heap) (locs : List Loc) (ls : Array Slot), Pw s0 s E z h H locs → lv_has ls 6 [(0, .ref v0), (2, .int v2), (3, .int v3), (4, .int v4)] → k34 h v0 v2 v3 v4 = some (r, h') → W p l e (rmO 6 135) s m args below meth c H locs 0 0 (Zt below s0 E z h' (some (.int r)) args s 0 0) (F0 m 34 ls [])) : ∀ (h : Hp) (v0 : Nat) (v2 : Int32) (v3 : Int32) (v4 : Int32) (H : Heap) (locs : List Loc) (ls : Array Slot), Pw s0 s E z h H locs → lv_has ls 6 [(0, .ref v0), (2, .int v2), (3, .int v3), (4, .int v4)] → f_X12_season_68 n z k34 h v0 v2 v3 v4 = some (r, h') → W p l e (rmO 6 135) s m args below meth c H locs 0 0 (Zt below s0 E z h' (some (.int r)) args s 0 0) (F0 m 68 ls []) := by
  have hx := B.1
  have hb := B.2.1
  intro h v0 v2 v3 v4 H locs ls hw hl hf
  unfold f_X12_season_68 at hf
  obtain ⟨x1, e, hf⟩ := ob hf
  refine lv_iinc (v := x1) (lv' := [(4, .int x1), (0, .ref v0), (2, .int v2), (3, .int v3)]) hx hb dX12_season_68 hl (k := 3) rfl (Option.some.inj e) (by decide) rfl (fun ls hl => ?_)
  refine lv_goto (tgt := 34) hx hb dX12_season_71 (by decide) ?_
  exact hk34 h v0 v2 v3 x1 _ _ _ hw (lv_sub hl [1, 2, 3, 0] rfl) hf
set_option maxHeartbeats 4000000 in
theorem w_X12_season_34 {p : Program} {l : Launch} {e : Env} {s : State} {m : MethodId} {args : Array Value} {below : List Frame} {meth : Method} {c : Code} {s0 : State} {E : Ev} {z : Sh} {n : Nat} {r : Int32} {h' : Hp} (G : Gl s0 E) (B : Bd p s0 s E m c cX12_season 6 RX12) (hz : s0.heap.size ≤ z.sz) (hc0 : s.heap.size + 0 = z.sz) (hr : meth.sig.returnType = (some .int)) (hlk : meth.locks = false) : ∀ (i : Nat), ∀ (h : Hp) (v0 : Nat) (v2 : Int32) (v3 : Int32) (v4 : Int32) (H : Heap) (locs : List Loc) (ls : Array Slot), Pw s0 s E z h H locs → lv_has ls 6 [(0, .ref v0), (2, .int v2), (3, .int v3), (4, .int v4)] → f_X12_season_34 n z i h v0 v2 v3 v4 = some (r, h') → W p l e (rmO 6 135) s m args below meth c H locs 0 0 (Zt below s0 E z h' (some (.int r)) args s 0 0) (F0 m 34 ls []) := by
  have hx := B.1
  have hb := B.2.1
  intro i
  induction i with
  | zero =>
    intro h v0 v2 v3 v4 H locs ls hw hl hf
    have hf := (f_X12_season_34.eq_1 ..).symm.trans hf
    cases hf
  | succ i ih =>
    intro h v0 v2 v3 v4 H locs ls hw hl hf
    have hf := (f_X12_season_34.eq_2 ..).symm.trans hf
    refine lv_iload hx hb dX12_season_34 (lv_at hl 3 rfl) ?_
    refine lv_iload_n hx hb dX12_season_36 rfl (lv_at hl 1 rfl) ?_
    refine lv_icmp_ge (tgt := 74) hx hb dX12_season_37 (by decide) (fun c1 => ?_) (fun c1 => ?_)
    · have hf := (if_pos c1).symm.trans hf
      refine lv_iload_n hx hb dX12_season_74 rfl (lv_at hl 2 rfl) ?_
      refine lv_if_le (tgt := 82) hx hb dX12_season_75 (by decide) (fun c2 => ?_) (fun c2 => ?_)
      · have hf := (if_pos c2).symm.trans hf
        refine lv_iload_n hx hb dX12_season_82 rfl (lv_at hl 2 rfl) ?_
        obtain ⟨rfl, rfl⟩ := so2 hf
        exact q_iret B hw hz hc0 hr hlk dX12_season_83
      · have hf := (if_neg c2).symm.trans hf
        refine lv_aload_n hx hb dX12_season_78 rfl (lv_at hl 0 rfl) ?_
        obtain ⟨h3, e, hf⟩ := ob hf
        refine q_callV (As := []) (rest := []) (st1 := []) (c_X12_notes G e) B hw hz hc0 (k_X12_notes e) (by decide) (ci := 12) rfl rfl my_X12_notes mv_X12_notes tw_7_119 ⟨Nat.le_of_ble_eq_true rfl, Nat.le_of_ble_eq_true rfl⟩ ⟨Nat.zero_le _, Nat.zero_le _⟩ rfl hl.1 rfl rfl (Nat.le_of_ble_eq_true rfl) dX12_season_79 (fun H locs hw => ?_)
        refine lv_iload_n hx hb dX12_season_82 rfl (lv_at hl 2 rfl) ?_
        obtain ⟨rfl, rfl⟩ := so2 hf
        exact q_iret B hw hz hc0 hr hlk dX12_season_83
    · have hf := (if_neg c1).symm.trans hf
      refine lv_aload_n hx hb dX12_season_40 rfl (lv_at hl 0 rfl) ?_
      obtain ⟨⟨x4, h5⟩, e, hf⟩ := ob hf
      refine q_callV (As := []) (rest := []) (st1 := [.int x4]) (c_X12_drawn G e) B hw hz hc0 (k_X12_drawn e) (by decide) (ci := 12) rfl rfl my_X12_drawn mv_X12_drawn tw_7_220 ⟨Nat.le_of_ble_eq_true rfl, Nat.le_of_ble_eq_true rfl⟩ ⟨Nat.zero_le _, Nat.zero_le _⟩ rfl hl.1 rfl rfl (Nat.le_of_ble_eq_true rfl) dX12_season_41 (fun H locs hw => ?_)
      refine lv_istore (lv' := [(5, .int x4), (0, .ref v0), (2, .int v2), (3, .int v3), (4, .int v4)]) hx hb dX12_season_44 hl (by decide) rfl (fun ls hl => ?_)
      refine lv_aload_n hx hb dX12_season_46 rfl (lv_at hl 1 rfl) ?_
      refine lv_iload hx hb dX12_season_47 (lv_at hl 0 rfl) ?_
      refine lv_i2l (v := (Int32.toInt64 x4)) hx hb dX12_season_49 rfl ?_
      obtain ⟨x6, e, hf⟩ := ob hf
      refine q_callV (As := [.long (Int32.toInt64 x4)]) (rest := []) (st1 := [.int x6]) (c_X12_whyNot G e) B hw hz hc0 (k_X12_whyNot e) (by decide) (ci := 12) rfl rfl my_X12_whyNot mv_X12_whyNot tw_7_185 ⟨Nat.le_of_ble_eq_true rfl, Nat.le_of_ble_eq_true rfl⟩ ⟨Nat.zero_le _, Nat.zero_le _⟩ rfl hl.1 rfl rfl (Nat.le_of_ble_eq_true rfl) dX12_season_50 (fun H locs hw => ?_)
      refine lv_if_eq (tgt := 59) hx hb dX12_season_53 (by decide) (fun c7 => ?_) (fun c7 => ?_)
      · have hf := (if_pos c7).symm.trans hf
        refine lv_aload_n hx hb dX12_season_59 rfl (lv_at hl 1 rfl) ?_
        refine lv_iload hx hb dX12_season_60 (lv_at hl 0 rfl) ?_
        obtain ⟨h8, e, hf⟩ := ob hf
        refine q_callV (As := [.int x4]) (rest := []) (st1 := []) (c_X12_does G e) B hw hz hc0 (k_X12_does e) (by decide) (ci := 12) rfl rfl my_X12_does mv_X12_does tw_7_195 ⟨Nat.le_of_ble_eq_true rfl, Nat.le_of_ble_eq_true rfl⟩ ⟨Nat.zero_le _, Nat.zero_le _⟩ rfl hl.1 rfl rfl (Nat.le_of_ble_eq_true rfl) dX12_season_62 (fun H locs hw => ?_)
        obtain ⟨x9, e, hf⟩ := ob hf
        refine lv_iinc (v := x9) (lv' := [(3, .int x9), (5, .int x4), (0, .ref v0), (2, .int v2), (4, .int v4)]) hx hb dX12_season_65 hl (k := 3) rfl (Option.some.inj e) (by decide) rfl (fun ls hl => ?_)
        exact w_X12_season_68 G B hz hc0 hr hlk ih h8 v0 v2 x9 v4 _ _ _ hw (lv_sub hl [2, 3, 0, 4] rfl) hf
      · have hf := (if_neg c7).symm.trans hf
        refine lv_goto (tgt := 68) hx hb dX12_season_56 (by decide) ?_
        exact w_X12_season_68 G B hz hc0 hr hlk ih h5 v0 v2 v3 v4 _ _ _ hw (lv_sub hl [1, 2, 3, 4] rfl) hf
set_option maxHeartbeats 4000000 in
theorem c_X12_season {l : Launch} {s0 : State} {E : Ev} (G : Gl s0 E) {n : Nat} {z : Sh} {h : Hp} {v0 : Nat} {v1 : Int32} {v2 : Int32} {r : Int32} {h' : Hp} (hf : f_X12_season n z h v0 v1 v2 = some (r, h')) : Ct l s0 E yX12_season cX12_season 6 (some .int) 6 135 [.ref v0, .int v1, .int v2] z h h' (some (.int r)) := by
  refine Ct.of G (by decide) (Nat.le_of_ble_eq_true rfl) ?_
  intro p e s m below meth c ls B hw hz hc0 hr hlk hl
  have B : Bd p s0 s E m c cX12_season 6 RX12 := B
  have hx := B.1
  have hb := B.2.1
  have hl : lv_has ls 6 [(0, .ref v0), (1, .int v1), (2, .int v2)] := hl
  unfold f_X12_season at hf
  obtain ⟨_, hf⟩ := if_some hf
  refine lv_aload_n hx hb dX12_season_0 rfl (lv_at hl 0 rfl) ?_
  refine lv_iconst (v := 0) hx hb dX12_season_1 (by decide) ?_
  obtain ⟨h1, e, hf⟩ := ob hf
  refine q_putI e B hw fd_12_0.1 fd_12_0.2.1 fd_12_0.2.2.1 fd_12_0.2.2.2.1 fd_12_0.2.2.2.2 rfl rfl (tyX12_ok 0 (by decide)) tyX12 tyX12_ok nmX12 tw_6_43 dX12_season_2 (fun H locs hw => ?_)
  refine lv_iload_n hx hb dX12_season_5 rfl (lv_at hl 2 rfl) ?_
  refine lv_i2l (v := (Int32.toInt64 v2)) hx hb dX12_season_6 rfl ?_
  refine lv_lconst (v := 1) hx hb dX12_season_7 (by decide) ?_
  refine lv_ldc2 hx hb B.2.2.2.1 (B.w tw_7_219 rfl) dX12_season_8 ?_
  obtain ⟨x2, e, hf⟩ := ob hf
  refine q_callS (As := [.long (Int32.toInt64 v2), .long 1, .long 40]) (rest := []) (st1 := [.int x2]) (c_X12_within G e) B hw hz hc0 my_X12_within mv_X12_within tw_6_162 ⟨Nat.le_of_ble_eq_true rfl, Nat.le_of_ble_eq_true rfl⟩ ⟨Nat.zero_le _, Nat.zero_le _⟩ rfl hl.1 rfl rfl (Nat.le_of_ble_eq_true rfl) dX12_season_11 (fun H locs hw => ?_)
  refine lv_if_ne (tgt := 20) hx hb dX12_season_14 (by decide) (fun c3 => ?_) (fun c3 => ?_)
  · have hf := (if_neg c3).symm.trans hf
    refine lv_aload_n hx hb dX12_season_20 rfl (lv_at hl 0 rfl) ?_
    obtain ⟨h4, e, hf⟩ := ob hf
    refine q_callV (As := []) (rest := []) (st1 := []) (c_X12_keeps G e) B hw hz hc0 (k_X12_keeps e) (by decide) (ci := 12) rfl rfl my_X12_keeps mv_X12_keeps tw_7_104 ⟨Nat.le_of_ble_eq_true rfl, Nat.le_of_ble_eq_true rfl⟩ ⟨Nat.zero_le _, Nat.zero_le _⟩ rfl hl.1 rfl rfl (Nat.le_of_ble_eq_true rfl) dX12_season_21 (fun H locs hw => ?_)
    refine lv_aload_n hx hb dX12_season_24 rfl (lv_at hl 0 rfl) ?_
    refine lv_iload_n hx hb dX12_season_25 rfl (lv_at hl 1 rfl) ?_
    obtain ⟨h5, e, hf⟩ := ob hf
    refine q_putI e B hw fd_12_20.1 fd_12_20.2.1 fd_12_20.2.2.1 fd_12_20.2.2.2.1 fd_12_20.2.2.2.2 rfl rfl (tyX12_ok 20 (by decide)) tyX12 tyX12_ok nmX12 tw_6_63 dX12_season_26 (fun H locs hw => ?_)
    refine lv_iconst (v := 0) hx hb dX12_season_29 (by decide) ?_
    refine lv_istore_n (lv' := [(3, .int 0), (0, .ref v0), (1, .int v1), (2, .int v2)]) hx hb dX12_season_30 rfl hl (by decide) rfl (fun ls hl => ?_)
    refine lv_iconst (v := 0) hx hb dX12_season_31 (by decide) ?_
    refine lv_istore (lv' := [(4, .int 0), (3, .int 0), (0, .ref v0), (1, .int v1), (2, .int v2)]) hx hb dX12_season_32 hl (by decide) rfl (fun ls hl => ?_)
    exact w_X12_season_34 G B hz hc0 hr hlk  n h5 v0 v2 0 0 _ _ _ hw (lv_sub hl [2, 4, 1, 0] rfl) hf
  · have hf := (if_pos c3).symm.trans hf
    refine lv_ldc hx hb B.2.2.2.1 (B.w tw_6_165 rfl) dX12_season_17 ?_
    obtain ⟨rfl, rfl⟩ := so2 hf
    exact q_iret B hw hz hc0 hr hlk dX12_season_19
/-! SecondLifeModel.begins(I)V -/
def f_X12_begins_36 (n : Nat) (z : Sh) : Nat → Hp → Nat → Int32 → Option (Hp)
  | 0, _, _, _ => none
  | i + 1, h, v0, v2 =>
    if 3430 ≤ v2 then
      some h
    else
      (gR z h 12 v0 24).bind fun a2 =>
      (stZ z h a2 v2 0).bind fun h3 =>
      (some (v2 + 1)).bind fun x4 =>
      (f_X12_begins_36 n z i) h3 v0 x4
def f_X12_begins_31 (n : Nat) (z : Sh) (h : Hp) (v0 : Nat) (u0 : Int32) (u1 : Nat) : Option (Hp) :=
  (pZ z h 12 u1 26 u0).bind fun h1 =>
  f_X12_begins_36 n z n h1 v0 0
def f_X12_begins (n : Nat) (z : Sh) (h : Hp) (v0 : Nat) (v1 : Int32) : Option (Hp) :=
  if z.K v0 = 12 then
    (gR z h 12 v0 1).bind fun a1 =>
    (ldI z h a1 (54 + v1)).bind fun x2 =>
    (pI z h 12 v0 25 x2).bind fun h3 =>
    (gR z h3 12 v0 1).bind fun a4 =>
    (ldI z h3 a4 (60 + v1)).bind fun x5 =>
    if x5 = 0 then
      f_X12_begins_31 n z h3 v0 1 v0
    else
      f_X12_begins_31 n z h3 v0 0 v0
  else none
theorem k_X12_begins {n : Nat} {z : Sh} {h : Hp} {v0 : Nat} {v1 : Int32} {w : Hp} (hf : f_X12_begins n z h v0 v1 = some w) : z.K v0 = 12 := by
  unfold f_X12_begins at hf
  exact (if_some hf).1
set_option maxHeartbeats 4000000 in
theorem w_X12_begins_36 {p : Program} {l : Launch} {e : Env} {s : State} {m : MethodId} {args : Array Value} {below : List Frame} {meth : Method} {c : Code} {s0 : State} {E : Ev} {z : Sh} {n : Nat} {h' : Hp} (G : Gl s0 E) (B : Bd p s0 s E m c cX12_begins 3 RX12) (hz : s0.heap.size ≤ z.sz) (hc0 : s.heap.size + 0 = z.sz) (hr : meth.sig.returnType = none) (hlk : meth.locks = false) : ∀ (i : Nat), ∀ (h : Hp) (v0 : Nat) (v2 : Int32) (H : Heap) (locs : List Loc) (ls : Array Slot), Pw s0 s E z h H locs → lv_has ls 3 [(0, .ref v0), (2, .int v2)] → f_X12_begins_36 n z i h v0 v2 = some h' → W p l e (rmO 0 0) s m args below meth c H locs 0 0 (Zt below s0 E z h' (none) args s 0 0) (F0 m 36 ls []) := by
  have hx := B.1
  have hb := B.2.1
  intro i
  induction i with
  | zero =>
    intro h v0 v2 H locs ls hw hl hf
    have hf := (f_X12_begins_36.eq_1 ..).symm.trans hf
    cases hf
  | succ i ih =>
    intro h v0 v2 H locs ls hw hl hf
    have hf := (f_X12_begins_36.eq_2 ..).symm.trans hf
    refine lv_iload_n hx hb dX12_begins_36 rfl (lv_at hl 1 rfl) ?_
    refine lv_sipush (v := 3430) hx hb dX12_begins_37 (by decide) ?_
    refine lv_icmp_ge (tgt := 56) hx hb dX12_begins_40 (by decide) (fun c1 => ?_) (fun c1 => ?_)
    · have hf := (if_pos c1).symm.trans hf
      obtain rfl := so hf
      exact q_vret B hw hz hc0 hr hlk dX12_begins_56
    · have hf := (if_neg c1).symm.trans hf
      refine lv_aload_n hx hb dX12_begins_43 rfl (lv_at hl 0 rfl) ?_
      obtain ⟨a2, e, hf⟩ := ob hf
      refine q_getR e B hw fd_12_24.1 fd_12_24.2.1 fd_12_24.2.2.1 fd_12_24.2.2.2.1 fd_12_24.2.2.2.2 rfl tw_6_67 dX12_begins_44 ?_
      refine lv_iload_n hx hb dX12_begins_47 rfl (lv_at hl 1 rfl) ?_
      refine lv_iconst (v := 0) hx hb dX12_begins_48 (by decide) ?_
      obtain ⟨h3, e, hf⟩ := ob hf
      refine q_stZ e B hw dX12_begins_49 (fun H locs hw => ?_)
      obtain ⟨x4, e, hf⟩ := ob hf
      refine lv_iinc (v := x4) (lv' := [(2, .int x4), (0, .ref v0)]) hx hb dX12_begins_50 hl (k := 1) rfl (Option.some.inj e) (by decide) rfl (fun ls hl => ?_)
      refine lv_goto (tgt := 36) hx hb dX12_begins_53 (by decide) ?_
      exact ih h3 v0 x4 _ _ _ hw (lv_sub hl [1, 0] rfl) hf
set_option maxHeartbeats 4000000 in
theorem w_X12_begins_31 {p : Program} {l : Launch} {e : Env} {s : State} {m : MethodId} {args : Array Value} {below : List Frame} {meth : Method} {c : Code} {s0 : State} {E : Ev} {z : Sh} {n : Nat} {h' : Hp} (G : Gl s0 E) (B : Bd p s0 s E m c cX12_begins 3 RX12) (hz : s0.heap.size ≤ z.sz) (hc0 : s.heap.size + 0 = z.sz) (hr : meth.sig.returnType = none) (hlk : meth.locks = false) : ∀ (h : Hp) (v0 : Nat) (u0 : Int32) (u1 : Nat) (H : Heap) (locs : List Loc) (ls : Array Slot), Pw s0 s E z h H locs → lv_has ls 3 [(0, .ref v0)] → f_X12_begins_31 n z h v0 u0 u1 = some h' → W p l e (rmO 0 0) s m args below meth c H locs 0 0 (Zt below s0 E z h' (none) args s 0 0) (F0 m 31 ls [.int u0, .ref u1]) := by
  have hx := B.1
  have hb := B.2.1
  intro h v0 u0 u1 H locs ls hw hl hf
  unfold f_X12_begins_31 at hf
  obtain ⟨h1, e, hf⟩ := ob hf
  refine q_putZ e B hw fd_12_26.1 fd_12_26.2.1 fd_12_26.2.2.1 fd_12_26.2.2.2.1 fd_12_26.2.2.2.2 rfl rfl (tyX12_ok 26 (by decide)) tyX12 tyX12_ok nmX12 tw_6_69 dX12_begins_31 (fun H locs hw => ?_)
  refine lv_iconst (v := 0) hx hb dX12_begins_34 (by decide) ?_
  refine lv_istore_n (lv' := [(2, .int 0), (0, .ref v0)]) hx hb dX12_begins_35 rfl hl (by decide) rfl (fun ls hl => ?_)
  exact w_X12_begins_36 G B hz hc0 hr hlk  n h1 v0 0 _ _ _ hw (lv_sub hl [1, 0] rfl) hf
set_option maxHeartbeats 4000000 in
theorem c_X12_begins {l : Launch} {s0 : State} {E : Ev} (G : Gl s0 E) {n : Nat} {z : Sh} {h : Hp} {v0 : Nat} {v1 : Int32} {h' : Hp} (hf : f_X12_begins n z h v0 v1 = some h') : Ct l s0 E yX12_begins cX12_begins 3 none 0 0 [.ref v0, .int v1] z h h' (none) := by
  refine Ct.of G (by decide) (Nat.le_of_ble_eq_true rfl) ?_
  intro p e s m below meth c ls B hw hz hc0 hr hlk hl
  have B : Bd p s0 s E m c cX12_begins 3 RX12 := B
  have hx := B.1
  have hb := B.2.1
  have hl : lv_has ls 3 [(0, .ref v0), (1, .int v1)] := hl
  unfold f_X12_begins at hf
  obtain ⟨_, hf⟩ := if_some hf
  refine lv_aload_n hx hb dX12_begins_0 rfl (lv_at hl 0 rfl) ?_
  refine lv_aload_n hx hb dX12_begins_1 rfl (lv_at hl 0 rfl) ?_
  obtain ⟨a1, e, hf⟩ := ob hf
  refine q_getR e B hw fd_12_1.1 fd_12_1.2.1 fd_12_1.2.2.1 fd_12_1.2.2.2.1 fd_12_1.2.2.2.2 rfl tw_6_44 dX12_begins_2 ?_
  refine lv_bipush (v := 54) hx hb dX12_begins_5 (by decide) ?_
  refine lv_iload_n hx hb dX12_begins_7 rfl (lv_at hl 1 rfl) ?_
  refine lv_iadd hx hb dX12_begins_8 ?_
  obtain ⟨x2, e, hf⟩ := ob hf
  refine q_ldI e B hw dX12_begins_9 ?_
  obtain ⟨h3, e, hf⟩ := ob hf
  refine q_putI e B hw fd_12_25.1 fd_12_25.2.1 fd_12_25.2.2.1 fd_12_25.2.2.2.1 fd_12_25.2.2.2.2 rfl rfl (tyX12_ok 25 (by decide)) tyX12 tyX12_ok nmX12 tw_6_68 dX12_begins_10 (fun H locs hw => ?_)
  refine lv_aload_n hx hb dX12_begins_13 rfl (lv_at hl 0 rfl) ?_
  refine lv_aload_n hx hb dX12_begins_14 rfl (lv_at hl 0 rfl) ?_
  obtain ⟨a4, e, hf⟩ := ob hf
  refine q_getR e B hw fd_12_1.1 fd_12_1.2.1 fd_12_1.2.2.1 fd_12_1.2.2.2.1 fd_12_1.2.2.2.2 rfl tw_6_44 dX12_begins_15 ?_
  refine lv_bipush (v := 60) hx hb dX12_begins_18 (by decide) ?_
  refine lv_iload_n hx hb dX12_begins_20 rfl (lv_at hl 1 rfl) ?_
  refine lv_iadd hx hb dX12_begins_21 ?_
  obtain ⟨x5, e, hf⟩ := ob hf
  refine q_ldI e B hw dX12_begins_22 ?_
  refine lv_if_ne (tgt := 30) hx hb dX12_begins_23 (by decide) (fun c6 => ?_) (fun c6 => ?_)
  · have hf := (if_neg c6).symm.trans hf
    refine lv_iconst (v := 0) hx hb dX12_begins_30 (by decide) ?_
    exact w_X12_begins_31 G B hz hc0 hr hlk  h3 v0 0 v0 _ _ _ hw (lv_sub hl [0] rfl) hf
  · have hf := (if_pos c6).symm.trans hf
    refine lv_iconst (v := 1) hx hb dX12_begins_26 (by decide) ?_
    refine lv_goto (tgt := 31) hx hb dX12_begins_27 (by decide) ?_
    exact w_X12_begins_31 G B hz hc0 hr hlk  h3 v0 1 v0 _ _ _ hw (lv_sub hl [0] rfl) hf
/-! SecondLifeModel.canDraw(I)Z -/
def f_X12_canDraw (z : Sh) (h : Hp) (v0 : Nat) (v1 : Int32) : Option (Int32) :=
  if z.K v0 = 12 then
    (gI z h 12 v0 26).bind fun x1 =>
    if x1 = 0 then
      some 0
    else
      (f_X12_lifeOf z h v1).bind fun x3 =>
      if x3 = 1 then
        some 1
      else
        some 0
  else none
theorem k_X12_canDraw {z : Sh} {h : Hp} {v0 : Nat} {v1 : Int32} {w : Int32} (hf : f_X12_canDraw z h v0 v1 = some w) : z.K v0 = 12 := by
  unfold f_X12_canDraw at hf
  exact (if_some hf).1
set_option maxHeartbeats 4000000 in
theorem c_X12_canDraw {l : Launch} {s0 : State} {E : Ev} (G : Gl s0 E) {z : Sh} {h : Hp} {v0 : Nat} {v1 : Int32} {r : Int32} (hf : f_X12_canDraw z h v0 v1 = some r) : Ct l s0 E yX12_canDraw cX12_canDraw 2 (some .boolean) 1 20 [.ref v0, .int v1] z h h (some (.int r)) := by
  refine Ct.of G (by decide) (Nat.le_of_ble_eq_true rfl) ?_
  intro p e s m below meth c ls B hw hz hc0 hr hlk hl
  have B : Bd p s0 s E m c cX12_canDraw 2 RX12 := B
  have hx := B.1
  have hb := B.2.1
  have hl : lv_has ls 2 [(0, .ref v0), (1, .int v1)] := hl
  unfold f_X12_canDraw at hf
  obtain ⟨_, hf⟩ := if_some hf
  refine lv_aload_n hx hb dX12_canDraw_0 rfl (lv_at hl 0 rfl) ?_
  obtain ⟨x1, e, hf⟩ := ob hf
  refine q_getI e B hw fd_12_26.1 fd_12_26.2.1 fd_12_26.2.2.1 fd_12_26.2.2.2.1 fd_12_26.2.2.2.2 rfl tw_6_69 dX12_canDraw_1 ?_
  refine lv_if_eq (tgt := 19) hx hb dX12_canDraw_4 (by decide) (fun c2 => ?_) (fun c2 => ?_)
  · have hf := (if_pos c2).symm.trans hf
    refine lv_iconst (v := 0) hx hb dX12_canDraw_19 (by decide) ?_
    obtain rfl := so hf
    exact q_zret (Or.inl rfl) B hw hz hc0 hr hlk dX12_canDraw_20
  · have hf := (if_neg c2).symm.trans hf
    refine lv_iload_n hx hb dX12_canDraw_7 rfl (lv_at hl 1 rfl) ?_
    obtain ⟨x3, e, hf⟩ := ob hf
    refine q_callS (As := [.int v1]) (rest := []) (st1 := [.int x3]) (c_X12_lifeOf G e) B hw hz hc0 my_X12_lifeOf mv_X12_lifeOf tw_7_72 ⟨Nat.le_of_ble_eq_true rfl, Nat.le_of_ble_eq_true rfl⟩ ⟨Nat.zero_le _, Nat.zero_le _⟩ rfl hl.1 rfl rfl (Nat.le_of_ble_eq_true rfl) dX12_canDraw_8 (fun H locs hw => ?_)
    refine lv_iconst (v := 1) hx hb dX12_canDraw_11 (by decide) ?_
    refine lv_icmp_ne (tgt := 19) hx hb dX12_canDraw_12 (by decide) (fun c4 => ?_) (fun c4 => ?_)
    · have hf := (if_neg c4).symm.trans hf
      refine lv_iconst (v := 0) hx hb dX12_canDraw_19 (by decide) ?_
      obtain rfl := so hf
      exact q_zret (Or.inl rfl) B hw hz hc0 hr hlk dX12_canDraw_20
    · have hf := (if_pos c4).symm.trans hf
      refine lv_iconst (v := 1) hx hb dX12_canDraw_15 (by decide) ?_
      refine lv_goto (tgt := 20) hx hb dX12_canDraw_16 (by decide) ?_
      obtain rfl := so hf
      exact q_zret (Or.inr rfl) B hw hz hc0 hr hlk dX12_canDraw_20
