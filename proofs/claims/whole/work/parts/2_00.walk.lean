/-! SecondLife.fault(I)I -/
def f_X11_fault (z : Sh) (h : Hp) (v0 : Nat) (v1 : Int32) : Option (Int32) :=
  if z.K v0 = 11 then
    if v1 = 0 then
      (gR z h 11 v0 2).bind fun a5 =>
      (gI z h 6 a5 0).bind fun x6 =>
      some x6
    else
      if v1 = 1 then
        (gR z h 11 v0 2).bind fun a3 =>
        (gI z h 6 a3 1).bind fun x4 =>
        some x4
      else
        some ((-1) : Int32)
  else none
theorem k_X11_fault {z : Sh} {h : Hp} {v0 : Nat} {v1 : Int32} {w : Int32} (hf : f_X11_fault z h v0 v1 = some w) : z.K v0 = 11 := by
  unfold f_X11_fault at hf
  exact (if_some hf).1
set_option maxHeartbeats 4000000 in
theorem c_X11_fault {l : Launch} {s0 : State} {E : Ev} (G : Gl s0 E) {z : Sh} {h : Hp} {v0 : Nat} {v1 : Int32} {r : Int32} (hf : f_X11_fault z h v0 v1 = some r) : Ct l s0 E yX11_fault cX11_fault 2 (some .int) 0 0 [.ref v0, .int v1] z h h (some (.int r)) := by
  refine Ct.of G (by decide) (Nat.le_of_ble_eq_true rfl) ?_
  intro p e s m below meth c ls B hw hz hc0 hr hlk hl
  have B : Bd p s0 s E m c cX11_fault 2 RX11 := B
  have hx := B.1
  have hb := B.2.1
  have hl : lv_has ls 2 [(0, .ref v0), (1, .int v1)] := hl
  unfold f_X11_fault at hf
  obtain ⟨_, hf⟩ := if_some hf
  refine lv_iload_n hx hb dX11_fault_0 rfl (lv_at hl 1 rfl) ?_
  refine lv_if_ne (tgt := 12) hx hb dX11_fault_1 (by decide) (fun c1 => ?_) (fun c1 => ?_)
  · have hf := (if_neg c1).symm.trans hf
    refine lv_iload_n hx hb dX11_fault_12 rfl (lv_at hl 1 rfl) ?_
    refine lv_iconst (v := 1) hx hb dX11_fault_13 (by decide) ?_
    refine lv_icmp_ne (tgt := 27) hx hb dX11_fault_14 (by decide) (fun c2 => ?_) (fun c2 => ?_)
    · have hf := (if_neg c2).symm.trans hf
      refine lv_iconst (v := (-1)) hx hb dX11_fault_27 (by decide) ?_
      obtain rfl := so hf
      exact q_iret B hw hz hc0 hr hlk dX11_fault_28
    · have hf := (if_pos c2).symm.trans hf
      refine lv_aload_n hx hb dX11_fault_17 rfl (lv_at hl 0 rfl) ?_
      obtain ⟨a3, e, hf⟩ := ob hf
      refine q_getR e B hw fd_11_2.1 fd_11_2.2.1 fd_11_2.2.2.1 fd_11_2.2.2.2.1 fd_11_2.2.2.2.2 rfl tw_2_104 dX11_fault_18 ?_
      obtain ⟨x4, e, hf⟩ := ob hf
      refine q_getIN e B hw fd_6_1.1 fd_6_1.2.1 fd_6_1.2.2.1 fd_6_1.2.2.2.1 fd_6_1.2.2.2.2 rfl tw_1_106 dX11_fault_21 ?_
      refine lv_goto (tgt := 28) hx hb dX11_fault_24 (by decide) ?_
      obtain rfl := so hf
      exact q_iret B hw hz hc0 hr hlk dX11_fault_28
  · have hf := (if_pos c1).symm.trans hf
    refine lv_aload_n hx hb dX11_fault_4 rfl (lv_at hl 0 rfl) ?_
    obtain ⟨a5, e, hf⟩ := ob hf
    refine q_getR e B hw fd_11_2.1 fd_11_2.2.1 fd_11_2.2.2.1 fd_11_2.2.2.2.1 fd_11_2.2.2.2.2 rfl tw_2_104 dX11_fault_5 ?_
    obtain ⟨x6, e, hf⟩ := ob hf
    refine q_getIN e B hw fd_6_0.1 fd_6_0.2.1 fd_6_0.2.2.1 fd_6_0.2.2.2.1 fd_6_0.2.2.2.2 rfl tw_1_104 dX11_fault_8 ?_
    obtain rfl := so hf
    exact q_iret B hw hz hc0 hr hlk dX11_fault_11
/-! SecondLife.refused(I)I -/
def f_X11_refused (z : Sh) (h : Hp) (v0 : Int32) : Option (Int32) :=
  some ((-99000000) - v0)
set_option maxHeartbeats 4000000 in
theorem c_X11_refused {l : Launch} {s0 : State} {E : Ev} (G : Gl s0 E) {z : Sh} {h : Hp} {v0 : Int32} {r : Int32} (hf : f_X11_refused z h v0 = some r) : Ct l s0 E yX11_refused cX11_refused 1 (some .int) 0 0 [.int v0] z h h (some (.int r)) := by
  refine Ct.of G (by decide) (Nat.le_of_ble_eq_true rfl) ?_
  intro p e s m below meth c ls B hw hz hc0 hr hlk hl
  have B : Bd p s0 s E m c cX11_refused 1 RX11 := B
  have hx := B.1
  have hb := B.2.1
  have hl : lv_has ls 1 [(0, .int v0)] := hl
  unfold f_X11_refused at hf
  refine lv_ldcw hx hb B.2.2.2.1 (B.w tw_2_158 rfl) dX11_refused_0 ?_
  refine lv_iload_n hx hb dX11_refused_3 rfl (lv_at hl 0 rfl) ?_
  refine lv_isub hx hb dX11_refused_4 ?_
  obtain rfl := so hf
  exact q_iret B hw hz hc0 hr hlk dX11_refused_5
/-! SecondLife.tapeWord(I)V -/
def f_X11_tapeWord_42 (n : Nat) (z : Sh) (k3 : Hp → Nat → Int32 → Int32 → Option (Hp)) (h : Hp) (v0 : Nat) (v1 : Int32) (v2 : Int32) : Option (Hp) :=
  (some (v2 + (-8))).bind fun x1 =>
  k3 h v0 v1 x1
def f_X11_tapeWord_3 (n : Nat) (z : Sh) : Nat → Hp → Nat → Int32 → Int32 → Option (Hp)
  | 0, _, _, _, _ => none
  | i + 1, h, v0, v1, v2 =>
    if v2 < 0 then
      some h
    else
      (gI z h 11 v0 1).bind fun x2 =>
      (gR z h 11 v0 0).bind fun a3 =>
      (aL z a3).bind fun x4 =>
      if x4 ≤ x2 then
        f_X11_tapeWord_42 n z (f_X11_tapeWord_3 n z i) h v0 v1 v2
      else
        (gR z h 11 v0 0).bind fun a6 =>
        (gI z h 11 v0 1).bind fun x7 =>
        (stB z h a6 x7 ((Int32.toInt8 ((Int32.toUInt32 v1 >>> (Int32.toUInt32 v2 &&& Int32.toUInt32 31)).toInt32)).toInt32)).bind fun h8 =>
        (gI z h8 11 v0 1).bind fun x9 =>
        (pI z h8 11 v0 1 (x9 + 1)).bind fun h10 =>
        f_X11_tapeWord_42 n z (f_X11_tapeWord_3 n z i) h10 v0 v1 v2
def f_X11_tapeWord (n : Nat) (z : Sh) (h : Hp) (v0 : Nat) (v1 : Int32) : Option (Hp) :=
  if z.K v0 = 11 then
    f_X11_tapeWord_3 n z n h v0 v1 24
  else none
theorem k_X11_tapeWord {n : Nat} {z : Sh} {h : Hp} {v0 : Nat} {v1 : Int32} {w : Hp} (hf : f_X11_tapeWord n z h v0 v1 = some w) : z.K v0 = 11 := by
  unfold f_X11_tapeWord at hf
  exact (if_some hf).1
set_option maxHeartbeats 4000000 in
theorem w_X11_tapeWord_42 {p : Program} {l : Launch} {e : Env} {s : State} {m : MethodId} {args : Array Value} {below : List Frame} {meth : Method} {c : Code} {s0 : State} {E : Ev} {z : Sh} {n : Nat} {k3 : Hp → Nat → Int32 → Int32 → Option (Hp)} {h' : Hp} (G : Gl s0 E) (B : Bd p s0 s E m c cX11_tapeWord 3 RX11) (hz : s0.heap.size ≤ z.sz) (hc0 : s.heap.size + 0 = z.sz) (hr : meth.sig.returnType = none) (hlk : meth.locks = false) (hk3 : ∀ (h : Hp) (v0 : Nat) (v1 : Int32) (v2 : Int32) (H : Heap) (locs : List Loc) (ls : Array Slot), Pw s0 s E z h H locs → lv_has ls 3 [(0, .ref v0), (1, .int v1), (2, .int v2)] → k3 h v0 v1 v2 = some h' → W p l e (rmO 0 0) s m args below meth c H locs 0 0 (Zt below s0 E z h' (none) args s 0 0) (F0 m 3 ls [])) : ∀ (h : Hp) (v0 : Nat) (v1 : Int32) (v2 : Int32) (H : Heap) (locs : List Loc) (ls : Array Slot), Pw s0 s E z h H locs → lv_has ls 3 [(0, .ref v0), (1, .int v1), (2, .int v2)] → f_X11_tapeWord_42 n z k3 h v0 v1 v2 = some h' → W p l e (rmO 0 0) s m args below meth c H locs 0 0 (Zt below s0 E z h' (none) args s 0 0) (F0 m 42 ls []) := by
  have hx := B.1
  have hb := B.2.1
  intro h v0 v1 v2 H locs ls hw hl hf
  unfold f_X11_tapeWord_42 at hf
  obtain ⟨x1, e, hf⟩ := ob hf
  refine lv_iinc (v := x1) (lv' := [(2, .int x1), (0, .ref v0), (1, .int v1)]) hx hb dX11_tapeWord_42 hl (k := 2) rfl (Option.some.inj e) (by decide) rfl (fun ls hl => ?_)
  refine lv_goto (tgt := 3) hx hb dX11_tapeWord_45 (by decide) ?_
  exact hk3 h v0 v1 x1 _ _ _ hw (lv_sub hl [1, 2, 0] rfl) hf
set_option maxHeartbeats 4000000 in
theorem w_X11_tapeWord_3 {p : Program} {l : Launch} {e : Env} {s : State} {m : MethodId} {args : Array Value} {below : List Frame} {meth : Method} {c : Code} {s0 : State} {E : Ev} {z : Sh} {n : Nat} {h' : Hp} (G : Gl s0 E) (B : Bd p s0 s E m c cX11_tapeWord 3 RX11) (hz : s0.heap.size ≤ z.sz) (hc0 : s.heap.size + 0 = z.sz) (hr : meth.sig.returnType = none) (hlk : meth.locks = false) : ∀ (i : Nat), ∀ (h : Hp) (v0 : Nat) (v1 : Int32) (v2 : Int32) (H : Heap) (locs : List Loc) (ls : Array Slot), Pw s0 s E z h H locs → lv_has ls 3 [(0, .ref v0), (1, .int v1), (2, .int v2)] → f_X11_tapeWord_3 n z i h v0 v1 v2 = some h' → W p l e (rmO 0 0) s m args below meth c H locs 0 0 (Zt below s0 E z h' (none) args s 0 0) (F0 m 3 ls []) := by
  have hx := B.1
  have hb := B.2.1
  intro i
  induction i with
  | zero =>
    intro h v0 v1 v2 H locs ls hw hl hf
    have hf := (f_X11_tapeWord_3.eq_1 ..).symm.trans hf
    cases hf
  | succ i ih =>
    intro h v0 v1 v2 H locs ls hw hl hf
    have hf := (f_X11_tapeWord_3.eq_2 ..).symm.trans hf
    refine lv_iload_n hx hb dX11_tapeWord_3 rfl (lv_at hl 2 rfl) ?_
    refine lv_if_lt (tgt := 48) hx hb dX11_tapeWord_4 (by decide) (fun c1 => ?_) (fun c1 => ?_)
    · have hf := (if_pos c1).symm.trans hf
      obtain rfl := so hf
      exact q_vret B hw hz hc0 hr hlk dX11_tapeWord_48
    · have hf := (if_neg c1).symm.trans hf
      refine lv_aload_n hx hb dX11_tapeWord_7 rfl (lv_at hl 0 rfl) ?_
      obtain ⟨x2, e, hf⟩ := ob hf
      refine q_getI e B hw fd_11_1.1 fd_11_1.2.1 fd_11_1.2.2.1 fd_11_1.2.2.2.1 fd_11_1.2.2.2.2 rfl tw_2_103 dX11_tapeWord_8 ?_
      refine lv_aload_n hx hb dX11_tapeWord_11 rfl (lv_at hl 0 rfl) ?_
      obtain ⟨a3, e, hf⟩ := ob hf
      refine q_getR e B hw fd_11_0.1 fd_11_0.2.1 fd_11_0.2.2.1 fd_11_0.2.2.2.1 fd_11_0.2.2.2.2 rfl tw_2_102 dX11_tapeWord_12 ?_
      obtain ⟨x4, e, hf⟩ := ob hf
      refine q_len e B hw dX11_tapeWord_15 ?_
      refine lv_icmp_ge (tgt := 42) hx hb dX11_tapeWord_16 (by decide) (fun c5 => ?_) (fun c5 => ?_)
      · have hf := (if_pos c5).symm.trans hf
        exact w_X11_tapeWord_42 G B hz hc0 hr hlk ih h v0 v1 v2 _ _ _ hw (lv_sub hl [0, 1, 2] rfl) hf
      · have hf := (if_neg c5).symm.trans hf
        refine lv_aload_n hx hb dX11_tapeWord_19 rfl (lv_at hl 0 rfl) ?_
        obtain ⟨a6, e, hf⟩ := ob hf
        refine q_getR e B hw fd_11_0.1 fd_11_0.2.1 fd_11_0.2.2.1 fd_11_0.2.2.2.1 fd_11_0.2.2.2.2 rfl tw_2_102 dX11_tapeWord_20 ?_
        refine lv_aload_n hx hb dX11_tapeWord_23 rfl (lv_at hl 0 rfl) ?_
        obtain ⟨x7, e, hf⟩ := ob hf
        refine q_getI e B hw fd_11_1.1 fd_11_1.2.1 fd_11_1.2.2.1 fd_11_1.2.2.2.1 fd_11_1.2.2.2.2 rfl tw_2_103 dX11_tapeWord_24 ?_
        refine lv_iload_n hx hb dX11_tapeWord_27 rfl (lv_at hl 1 rfl) ?_
        refine lv_iload_n hx hb dX11_tapeWord_28 rfl (lv_at hl 2 rfl) ?_
        refine lv_iushr (v := (Int32.toUInt32 v1 >>> (Int32.toUInt32 v2 &&& Int32.toUInt32 31)).toInt32) hx hb dX11_tapeWord_29 rfl ?_
        refine lv_i2b (v := ((Int32.toInt8 ((Int32.toUInt32 v1 >>> (Int32.toUInt32 v2 &&& Int32.toUInt32 31)).toInt32)).toInt32)) hx hb dX11_tapeWord_30 rfl ?_
        obtain ⟨h8, e, hf⟩ := ob hf
        refine q_stB e B hw dX11_tapeWord_31 (fun H locs hw => ?_)
        refine lv_aload_n hx hb dX11_tapeWord_32 rfl (lv_at hl 0 rfl) ?_
        refine lv_dup hx hb dX11_tapeWord_33 rfl ?_
        obtain ⟨x9, e, hf⟩ := ob hf
        refine q_getI e B hw fd_11_1.1 fd_11_1.2.1 fd_11_1.2.2.1 fd_11_1.2.2.2.1 fd_11_1.2.2.2.2 rfl tw_2_103 dX11_tapeWord_34 ?_
        refine lv_iconst (v := 1) hx hb dX11_tapeWord_37 (by decide) ?_
        refine lv_iadd hx hb dX11_tapeWord_38 ?_
        obtain ⟨h10, e, hf⟩ := ob hf
        refine q_putI e B hw fd_11_1.1 fd_11_1.2.1 fd_11_1.2.2.1 fd_11_1.2.2.2.1 fd_11_1.2.2.2.2 rfl rfl (tyX11_ok 1 (by decide)) tyX11 tyX11_ok nmX11 tw_2_103 dX11_tapeWord_39 (fun H locs hw => ?_)
        exact w_X11_tapeWord_42 G B hz hc0 hr hlk ih h10 v0 v1 v2 _ _ _ hw (lv_sub hl [0, 1, 2] rfl) hf
set_option maxHeartbeats 4000000 in
theorem c_X11_tapeWord {l : Launch} {s0 : State} {E : Ev} (G : Gl s0 E) {n : Nat} {z : Sh} {h : Hp} {v0 : Nat} {v1 : Int32} {h' : Hp} (hf : f_X11_tapeWord n z h v0 v1 = some h') : Ct l s0 E yX11_tapeWord cX11_tapeWord 3 none 0 0 [.ref v0, .int v1] z h h' (none) := by
  refine Ct.of G (by decide) (Nat.le_of_ble_eq_true rfl) ?_
  intro p e s m below meth c ls B hw hz hc0 hr hlk hl
  have B : Bd p s0 s E m c cX11_tapeWord 3 RX11 := B
  have hx := B.1
  have hb := B.2.1
  have hl : lv_has ls 3 [(0, .ref v0), (1, .int v1)] := hl
  unfold f_X11_tapeWord at hf
  obtain ⟨_, hf⟩ := if_some hf
  refine lv_bipush (v := 24) hx hb dX11_tapeWord_0 (by decide) ?_
  refine lv_istore_n (lv' := [(2, .int 24), (0, .ref v0), (1, .int v1)]) hx hb dX11_tapeWord_2 rfl hl (by decide) rfl (fun ls hl => ?_)
  exact w_X11_tapeWord_3 G B hz hc0 hr hlk  n h v0 v1 24 _ _ _ hw (lv_sub hl [1, 2, 0] rfl) hf
/-! SecondLife.trayAt(I)LSecondLife$Tray; -/
def f_X11_trayAt (z : Sh) (h : Hp) (v0 : Nat) (v1 : Int32) : Option (Option Nat) :=
  if z.K v0 = 11 then
    if v1 < 0 then
      some none
    else
      (gR z h 11 v0 9).bind fun a2 =>
      (aL z a2).bind fun x3 =>
      if x3 ≤ v1 then
        some none
      else
        (gR z h 11 v0 9).bind fun a5 =>
        (ldR z h 20 a5 v1).bind fun a6 =>
        some (some a6)
  else none
theorem k_X11_trayAt {z : Sh} {h : Hp} {v0 : Nat} {v1 : Int32} {w : Option Nat} (hf : f_X11_trayAt z h v0 v1 = some w) : z.K v0 = 11 := by
  unfold f_X11_trayAt at hf
  exact (if_some hf).1
set_option maxHeartbeats 4000000 in
theorem c_X11_trayAt {l : Launch} {s0 : State} {E : Ev} (G : Gl s0 E) {z : Sh} {h : Hp} {v0 : Nat} {v1 : Int32} {r : Option Nat} (hf : f_X11_trayAt z h v0 v1 = some r) : Ct l s0 E yX11_trayAt cX11_trayAt 2 (some (.object "SecondLife$Tray")) 0 0 [.ref v0, .int v1] z h h (some (va_rf r)) := by
  refine Ct.of G (by decide) (Nat.le_of_ble_eq_true rfl) ?_
  intro p e s m below meth c ls B hw hz hc0 hr hlk hl
  have B : Bd p s0 s E m c cX11_trayAt 2 RX11 := B
  have hx := B.1
  have hb := B.2.1
  have hl : lv_has ls 2 [(0, .ref v0), (1, .int v1)] := hl
  unfold f_X11_trayAt at hf
  obtain ⟨_, hf⟩ := if_some hf
  refine lv_iload_n hx hb dX11_trayAt_0 rfl (lv_at hl 1 rfl) ?_
  refine lv_if_lt (tgt := 22) hx hb dX11_trayAt_1 (by decide) (fun c1 => ?_) (fun c1 => ?_)
  · have hf := (if_pos c1).symm.trans hf
    refine lv_null hx hb dX11_trayAt_22 ?_
    obtain rfl := so hf
    exact q_aret (Or.inl ⟨_, rfl⟩) (Or.inl rfl) B hw hz hc0 hr hlk dX11_trayAt_23
  · have hf := (if_neg c1).symm.trans hf
    refine lv_iload_n hx hb dX11_trayAt_4 rfl (lv_at hl 1 rfl) ?_
    refine lv_aload_n hx hb dX11_trayAt_5 rfl (lv_at hl 0 rfl) ?_
    obtain ⟨a2, e, hf⟩ := ob hf
    refine q_getR e B hw fd_11_9.1 fd_11_9.2.1 fd_11_9.2.2.1 fd_11_9.2.2.2.1 fd_11_9.2.2.2.2 rfl tw_2_111 dX11_trayAt_6 ?_
    obtain ⟨x3, e, hf⟩ := ob hf
    refine q_len e B hw dX11_trayAt_9 ?_
    refine lv_icmp_ge (tgt := 22) hx hb dX11_trayAt_10 (by decide) (fun c4 => ?_) (fun c4 => ?_)
    · have hf := (if_pos c4).symm.trans hf
      refine lv_null hx hb dX11_trayAt_22 ?_
      obtain rfl := so hf
      exact q_aret (Or.inl ⟨_, rfl⟩) (Or.inl rfl) B hw hz hc0 hr hlk dX11_trayAt_23
    · have hf := (if_neg c4).symm.trans hf
      refine lv_aload_n hx hb dX11_trayAt_13 rfl (lv_at hl 0 rfl) ?_
      obtain ⟨a5, e, hf⟩ := ob hf
      refine q_getR e B hw fd_11_9.1 fd_11_9.2.1 fd_11_9.2.2.1 fd_11_9.2.2.2.1 fd_11_9.2.2.2.2 rfl tw_2_111 dX11_trayAt_14 ?_
      refine lv_iload_n hx hb dX11_trayAt_17 rfl (lv_at hl 1 rfl) ?_
      obtain ⟨a6, e, hf⟩ := ob hf
      refine q_ldR (t0 := 7) e B hw (by decide) (by decide) rfl dX11_trayAt_18 ?_
      refine lv_goto (tgt := 23) hx hb dX11_trayAt_19 (by decide) ?_
      obtain rfl := so hf
      exact q_aret (Or.inl ⟨_, rfl⟩) (Or.inr ⟨_, rfl⟩) B hw hz hc0 hr hlk dX11_trayAt_23
/-! SecondLife.within(III)I -/
def f_X11_within (z : Sh) (h : Hp) (v0 : Int32) (v1 : Int32) (v2 : Int32) : Option (Int32) :=
  if v1 ≤ v0 then
    if v0 ≤ v2 then
      some v0
    else
      some v2
  else
    some v1
set_option maxHeartbeats 4000000 in
theorem c_X11_within {l : Launch} {s0 : State} {E : Ev} (G : Gl s0 E) {z : Sh} {h : Hp} {v0 : Int32} {v1 : Int32} {v2 : Int32} {r : Int32} (hf : f_X11_within z h v0 v1 v2 = some r) : Ct l s0 E yX11_within cX11_within 3 (some .int) 0 0 [.int v0, .int v1, .int v2] z h h (some (.int r)) := by
  refine Ct.of G (by decide) (Nat.le_of_ble_eq_true rfl) ?_
  intro p e s m below meth c ls B hw hz hc0 hr hlk hl
  have B : Bd p s0 s E m c cX11_within 3 RX11 := B
  have hx := B.1
  have hb := B.2.1
  have hl : lv_has ls 3 [(0, .int v0), (1, .int v1), (2, .int v2)] := hl
  unfold f_X11_within at hf
  refine lv_iload_n hx hb dX11_within_0 rfl (lv_at hl 0 rfl) ?_
  refine lv_iload_n hx hb dX11_within_1 rfl (lv_at hl 1 rfl) ?_
  refine lv_icmp_ge (tgt := 9) hx hb dX11_within_2 (by decide) (fun c1 => ?_) (fun c1 => ?_)
  · have hf := (if_pos c1).symm.trans hf
    refine lv_iload_n hx hb dX11_within_9 rfl (lv_at hl 0 rfl) ?_
    refine lv_iload_n hx hb dX11_within_10 rfl (lv_at hl 2 rfl) ?_
    refine lv_icmp_le (tgt := 18) hx hb dX11_within_11 (by decide) (fun c2 => ?_) (fun c2 => ?_)
    · have hf := (if_pos c2).symm.trans hf
      refine lv_iload_n hx hb dX11_within_18 rfl (lv_at hl 0 rfl) ?_
      obtain rfl := so hf
      exact q_iret B hw hz hc0 hr hlk dX11_within_19
    · have hf := (if_neg c2).symm.trans hf
      refine lv_iload_n hx hb dX11_within_14 rfl (lv_at hl 2 rfl) ?_
      refine lv_goto (tgt := 19) hx hb dX11_within_15 (by decide) ?_
      obtain rfl := so hf
      exact q_iret B hw hz hc0 hr hlk dX11_within_19
  · have hf := (if_neg c1).symm.trans hf
    refine lv_iload_n hx hb dX11_within_5 rfl (lv_at hl 1 rfl) ?_
    refine lv_goto (tgt := 19) hx hb dX11_within_6 (by decide) ?_
    obtain rfl := so hf
    exact q_iret B hw hz hc0 hr hlk dX11_within_19
/-! SecondLifeModel.within(JJJ)Z -/
def f_X12_within (z : Sh) (h : Hp) (v0 : Int64) (v2 : Int64) (v4 : Int64) : Option (Int32) :=
  if (lg_cmp v0 v2) < 0 then
    some 0
  else
    if 0 < (lg_cmp v0 v4) then
      some 0
    else
      some 1
set_option maxHeartbeats 4000000 in
theorem c_X12_within {l : Launch} {s0 : State} {E : Ev} (G : Gl s0 E) {z : Sh} {h : Hp} {v0 : Int64} {v2 : Int64} {v4 : Int64} {r : Int32} (hf : f_X12_within z h v0 v2 v4 = some r) : Ct l s0 E yX12_within cX12_within 6 (some .boolean) 0 0 [.long v0, .long v2, .long v4] z h h (some (.int r)) := by
  refine Ct.of G (by decide) (Nat.le_of_ble_eq_true rfl) ?_
  intro p e s m below meth c ls B hw hz hc0 hr hlk hl
  have B : Bd p s0 s E m c cX12_within 6 RX12 := B
  have hx := B.1
  have hb := B.2.1
  have hl : lv_has ls 6 [(0, .long v0), (2, .long v2), (4, .long v4)] := hl
  unfold f_X12_within at hf
  refine lv_lload_n hx hb dX12_within_0 rfl (lv_at hl 0 rfl) ?_
  refine lv_lload_n hx hb dX12_within_1 rfl (lv_at hl 1 rfl) ?_
  refine W.lcmp hx hb dX12_within_2 ?_
  refine lv_if_lt (tgt := 17) hx hb dX12_within_3 (by decide) (fun c1 => ?_) (fun c1 => ?_)
  · have hf := (if_pos c1).symm.trans hf
    refine lv_iconst (v := 0) hx hb dX12_within_17 (by decide) ?_
    obtain rfl := so hf
    exact q_zret (Or.inl rfl) B hw hz hc0 hr hlk dX12_within_18
  · have hf := (if_neg c1).symm.trans hf
    refine lv_lload_n hx hb dX12_within_6 rfl (lv_at hl 0 rfl) ?_
    refine lv_lload hx hb dX12_within_7 (lv_at hl 2 rfl) ?_
    refine W.lcmp hx hb dX12_within_9 ?_
    refine lv_if_gt (tgt := 17) hx hb dX12_within_10 (by decide) (fun c2 => ?_) (fun c2 => ?_)
    · have hf := (if_pos c2).symm.trans hf
      refine lv_iconst (v := 0) hx hb dX12_within_17 (by decide) ?_
      obtain rfl := so hf
      exact q_zret (Or.inl rfl) B hw hz hc0 hr hlk dX12_within_18
    · have hf := (if_neg c2).symm.trans hf
      refine lv_iconst (v := 1) hx hb dX12_within_13 (by decide) ?_
      refine lv_goto (tgt := 18) hx hb dX12_within_14 (by decide) ?_
      obtain rfl := so hf
      exact q_zret (Or.inr rfl) B hw hz hc0 hr hlk dX12_within_18
/-! SecondLifeModel.plain([I)V -/
def f_X12_plain_29 (n : Nat) (z : Sh) : Nat → Hp → Nat → Int32 → Option (Hp)
  | 0, _, _, _ => none
  | i + 1, h, v0, v1 =>
    if 6 ≤ v1 then
      some h
    else
      (stI z h v0 (24 + v1) 1).bind fun h2 =>
      (stI z h2 v0 (36 + v1) 9).bind fun h3 =>
      (some (v1 + 1)).bind fun x4 =>
      (f_X12_plain_29 n z i) h3 v0 x4
def f_X12_plain_2 (n : Nat) (z : Sh) : Nat → Hp → Nat → Int32 → Option (Hp)
  | 0, _, _, _ => none
  | i + 1, h, v0, v1 =>
    if 1458 ≤ v1 then
      (stI z h v0 1 1).bind fun h2 =>
      (stI z h2 v0 2 1).bind fun h3 =>
      f_X12_plain_29 n z n h3 v0 0
    else
      (stI z h v0 v1 0).bind fun h4 =>
      (some (v1 + 1)).bind fun x5 =>
      (f_X12_plain_2 n z i) h4 v0 x5
def f_X12_plain (n : Nat) (z : Sh) (h : Hp) (v0 : Nat) : Option (Hp) :=
  f_X12_plain_2 n z n h v0 0
set_option maxHeartbeats 4000000 in
theorem w_X12_plain_29 {p : Program} {l : Launch} {e : Env} {s : State} {m : MethodId} {args : Array Value} {below : List Frame} {meth : Method} {c : Code} {s0 : State} {E : Ev} {z : Sh} {n : Nat} {h' : Hp} (G : Gl s0 E) (B : Bd p s0 s E m c cX12_plain 2 RX12) (hz : s0.heap.size ≤ z.sz) (hc0 : s.heap.size + 0 = z.sz) (hr : meth.sig.returnType = none) (hlk : meth.locks = false) : ∀ (i : Nat), ∀ (h : Hp) (v0 : Nat) (v1 : Int32) (H : Heap) (locs : List Loc) (ls : Array Slot), Pw s0 s E z h H locs → lv_has ls 2 [(0, .ref v0), (1, .int v1)] → f_X12_plain_29 n z i h v0 v1 = some h' → W p l e (rmO 0 0) s m args below meth c H locs 0 0 (Zt below s0 E z h' (none) args s 0 0) (F0 m 29 ls []) := by
  have hx := B.1
  have hb := B.2.1
  intro i
  induction i with
  | zero =>
    intro h v0 v1 H locs ls hw hl hf
    have hf := (f_X12_plain_29.eq_1 ..).symm.trans hf
    cases hf
  | succ i ih =>
    intro h v0 v1 H locs ls hw hl hf
    have hf := (f_X12_plain_29.eq_2 ..).symm.trans hf
    refine lv_iload_n hx hb dX12_plain_29 rfl (lv_at hl 1 rfl) ?_
    refine lv_bipush (v := 6) hx hb dX12_plain_30 (by decide) ?_
    refine lv_icmp_ge (tgt := 56) hx hb dX12_plain_32 (by decide) (fun c1 => ?_) (fun c1 => ?_)
    · have hf := (if_pos c1).symm.trans hf
      obtain rfl := so hf
      exact q_vret B hw hz hc0 hr hlk dX12_plain_56
    · have hf := (if_neg c1).symm.trans hf
      refine lv_aload_n hx hb dX12_plain_35 rfl (lv_at hl 0 rfl) ?_
      refine lv_bipush (v := 24) hx hb dX12_plain_36 (by decide) ?_
      refine lv_iload_n hx hb dX12_plain_38 rfl (lv_at hl 1 rfl) ?_
      refine lv_iadd hx hb dX12_plain_39 ?_
      refine lv_iconst (v := 1) hx hb dX12_plain_40 (by decide) ?_
      obtain ⟨h2, e, hf⟩ := ob hf
      refine q_stI e B hw dX12_plain_41 (fun H locs hw => ?_)
      refine lv_aload_n hx hb dX12_plain_42 rfl (lv_at hl 0 rfl) ?_
      refine lv_bipush (v := 36) hx hb dX12_plain_43 (by decide) ?_
      refine lv_iload_n hx hb dX12_plain_45 rfl (lv_at hl 1 rfl) ?_
      refine lv_iadd hx hb dX12_plain_46 ?_
      refine lv_bipush (v := 9) hx hb dX12_plain_47 (by decide) ?_
      obtain ⟨h3, e, hf⟩ := ob hf
      refine q_stI e B hw dX12_plain_49 (fun H locs hw => ?_)
      obtain ⟨x4, e, hf⟩ := ob hf
      refine lv_iinc (v := x4) (lv' := [(1, .int x4), (0, .ref v0)]) hx hb dX12_plain_50 hl (k := 1) rfl (Option.some.inj e) (by decide) rfl (fun ls hl => ?_)
      refine lv_goto (tgt := 29) hx hb dX12_plain_53 (by decide) ?_
      exact ih h3 v0 x4 _ _ _ hw (lv_sub hl [1, 0] rfl) hf
set_option maxHeartbeats 4000000 in
theorem w_X12_plain_2 {p : Program} {l : Launch} {e : Env} {s : State} {m : MethodId} {args : Array Value} {below : List Frame} {meth : Method} {c : Code} {s0 : State} {E : Ev} {z : Sh} {n : Nat} {h' : Hp} (G : Gl s0 E) (B : Bd p s0 s E m c cX12_plain 2 RX12) (hz : s0.heap.size ≤ z.sz) (hc0 : s.heap.size + 0 = z.sz) (hr : meth.sig.returnType = none) (hlk : meth.locks = false) : ∀ (i : Nat), ∀ (h : Hp) (v0 : Nat) (v1 : Int32) (H : Heap) (locs : List Loc) (ls : Array Slot), Pw s0 s E z h H locs → lv_has ls 2 [(0, .ref v0), (1, .int v1)] → f_X12_plain_2 n z i h v0 v1 = some h' → W p l e (rmO 0 0) s m args below meth c H locs 0 0 (Zt below s0 E z h' (none) args s 0 0) (F0 m 2 ls []) := by
  have hx := B.1
  have hb := B.2.1
  intro i
  induction i with
  | zero =>
    intro h v0 v1 H locs ls hw hl hf
    have hf := (f_X12_plain_2.eq_1 ..).symm.trans hf
    cases hf
  | succ i ih =>
    intro h v0 v1 H locs ls hw hl hf
    have hf := (f_X12_plain_2.eq_2 ..).symm.trans hf
    refine lv_iload_n hx hb dX12_plain_2 rfl (lv_at hl 1 rfl) ?_
    refine lv_sipush (v := 1458) hx hb dX12_plain_3 (by decide) ?_
    refine lv_icmp_ge (tgt := 19) hx hb dX12_plain_6 (by decide) (fun c1 => ?_) (fun c1 => ?_)
    · have hf := (if_pos c1).symm.trans hf
      refine lv_aload_n hx hb dX12_plain_19 rfl (lv_at hl 0 rfl) ?_
      refine lv_iconst (v := 1) hx hb dX12_plain_20 (by decide) ?_
      refine lv_iconst (v := 1) hx hb dX12_plain_21 (by decide) ?_
      obtain ⟨h2, e, hf⟩ := ob hf
      refine q_stI e B hw dX12_plain_22 (fun H locs hw => ?_)
      refine lv_aload_n hx hb dX12_plain_23 rfl (lv_at hl 0 rfl) ?_
      refine lv_iconst (v := 2) hx hb dX12_plain_24 (by decide) ?_
      refine lv_iconst (v := 1) hx hb dX12_plain_25 (by decide) ?_
      obtain ⟨h3, e, hf⟩ := ob hf
      refine q_stI e B hw dX12_plain_26 (fun H locs hw => ?_)
      refine lv_iconst (v := 0) hx hb dX12_plain_27 (by decide) ?_
      refine lv_istore_n (lv' := [(1, .int 0), (0, .ref v0)]) hx hb dX12_plain_28 rfl hl (by decide) rfl (fun ls hl => ?_)
      exact w_X12_plain_29 G B hz hc0 hr hlk  n h3 v0 0 _ _ _ hw (lv_sub hl [1, 0] rfl) hf
    · have hf := (if_neg c1).symm.trans hf
      refine lv_aload_n hx hb dX12_plain_9 rfl (lv_at hl 0 rfl) ?_
      refine lv_iload_n hx hb dX12_plain_10 rfl (lv_at hl 1 rfl) ?_
      refine lv_iconst (v := 0) hx hb dX12_plain_11 (by decide) ?_
      obtain ⟨h4, e, hf⟩ := ob hf
      refine q_stI e B hw dX12_plain_12 (fun H locs hw => ?_)
      obtain ⟨x5, e, hf⟩ := ob hf
      refine lv_iinc (v := x5) (lv' := [(1, .int x5), (0, .ref v0)]) hx hb dX12_plain_13 hl (k := 1) rfl (Option.some.inj e) (by decide) rfl (fun ls hl => ?_)
      refine lv_goto (tgt := 2) hx hb dX12_plain_16 (by decide) ?_
      exact ih h4 v0 x5 _ _ _ hw (lv_sub hl [1, 0] rfl) hf
set_option maxHeartbeats 4000000 in
theorem c_X12_plain {l : Launch} {s0 : State} {E : Ev} (G : Gl s0 E) {n : Nat} {z : Sh} {h : Hp} {v0 : Nat} {h' : Hp} (hf : f_X12_plain n z h v0 = some h') : Ct l s0 E yX12_plain cX12_plain 2 none 0 0 [.ref v0] z h h' (none) := by
  refine Ct.of G (by decide) (Nat.le_of_ble_eq_true rfl) ?_
  intro p e s m below meth c ls B hw hz hc0 hr hlk hl
  have B : Bd p s0 s E m c cX12_plain 2 RX12 := B
  have hx := B.1
  have hb := B.2.1
  have hl : lv_has ls 2 [(0, .ref v0)] := hl
  unfold f_X12_plain at hf
  refine lv_iconst (v := 0) hx hb dX12_plain_0 (by decide) ?_
  refine lv_istore_n (lv' := [(1, .int 0), (0, .ref v0)]) hx hb dX12_plain_1 rfl hl (by decide) rfl (fun ls hl => ?_)
  exact w_X12_plain_2 G B hz hc0 hr hlk  n h v0 0 _ _ _ hw (lv_sub hl [1, 0] rfl) hf
/-! SecondLifeModel.feed(IIIII)I -/
def f_X12_feed_77 (n : Nat) (z : Sh) (k24 : Hp → Nat → Int32 → Int32 → Int32 → Int32 → Int32 → Int32 → Option (Int32 × Hp)) (h : Hp) (v0 : Nat) (v1 : Int32) (v2 : Int32) (v3 : Int32) (v4 : Int32) (v5 : Int32) (v6 : Int32) (u0 : Int32) : Option (Int32 × Hp) :=
  (gR z h 12 v0 3).bind fun a1 =>
  (gI z h 12 v0 5).bind fun x2 =>
  (rmI v6 4).bind fun x3 =>
  (stI z h a1 x2 ((u0 >>> ((24 - (8 * x3)) &&& 31)) &&& 255)).bind fun h4 =>
  (gI z h4 12 v0 5).bind fun x5 =>
  (pI z h4 12 v0 5 (x5 + 1)).bind fun h6 =>
  (some (v6 + 1)).bind fun x7 =>
  k24 h6 v0 v1 v2 v3 v4 v5 x7
def f_X12_feed_24 (n : Nat) (z : Sh) : Nat → Hp → Nat → Int32 → Int32 → Int32 → Int32 → Int32 → Int32 → Option (Int32 × Hp)
  | 0, _, _, _, _, _, _, _, _ => none
  | i + 1, h, v0, v1, v2, v3, v4, v5, v6 =>
    if 20 ≤ v6 then
      (gI z h 12 v0 5).bind fun x2 =>
      some (x2, h)
    else
      if 4 ≤ v6 then
        if 8 ≤ v6 then
          if 12 ≤ v6 then
            if 16 ≤ v6 then
              f_X12_feed_77 n z (f_X12_feed_24 n z i) h v0 v1 v2 v3 v4 v5 v6 v5
            else
              f_X12_feed_77 n z (f_X12_feed_24 n z i) h v0 v1 v2 v3 v4 v5 v6 v4
          else
            f_X12_feed_77 n z (f_X12_feed_24 n z i) h v0 v1 v2 v3 v4 v5 v6 v3
        else
          f_X12_feed_77 n z (f_X12_feed_24 n z i) h v0 v1 v2 v3 v4 v5 v6 v2
      else
        f_X12_feed_77 n z (f_X12_feed_24 n z i) h v0 v1 v2 v3 v4 v5 v6 v1
def f_X12_feed (n : Nat) (z : Sh) (h : Hp) (v0 : Nat) (v1 : Int32) (v2 : Int32) (v3 : Int32) (v4 : Int32) (v5 : Int32) : Option (Int32 × Hp) :=
  if z.K v0 = 12 then
    (pI z h 12 v0 0 0).bind fun h1 =>
    (gI z h1 12 v0 5).bind fun x2 =>
    if (x2 + 20) ≤ 900 then
      f_X12_feed_24 n z n h1 v0 v1 v2 v3 v4 v5 0
    else
      some (((-99000005) : Int32), h1)
  else none
theorem k_X12_feed {n : Nat} {z : Sh} {h : Hp} {v0 : Nat} {v1 : Int32} {v2 : Int32} {v3 : Int32} {v4 : Int32} {v5 : Int32} {w : Int32 × Hp} (hf : f_X12_feed n z h v0 v1 v2 v3 v4 v5 = some w) : z.K v0 = 12 := by
  unfold f_X12_feed at hf
  exact (if_some hf).1
set_option maxHeartbeats 4000000 in
theorem w_X12_feed_77 {p : Program} {l : Launch} {e : Env} {s : State} {m : MethodId} {args : Array Value} {below : List Frame} {meth : Method} {c : Code} {s0 : State} {E : Ev} {z : Sh} {n : Nat} {k24 : Hp → Nat → Int32 → Int32 → Int32 → Int32 → Int32 → Int32 → Option (Int32 × Hp)} {r : Int32} {h' : Hp} (G : Gl s0 E) (B : Bd p s0 s E m c cX12_feed 8 RX12) (hz : s0.heap.size ≤ z.sz) (hc0 : s.heap.size + 0 = z.sz) (hr : meth.sig.returnType = (some .int)) (hlk : meth.locks = false) (hk24 : ∀ (h : Hp) (v0 : Nat) (v1 : Int32) (v2 : Int32) (v3 : Int32) (v4 : Int32) (v5 : Int32) (v6 : Int32) (H : Heap) (locs : List Loc) (ls : Array Slot), Pw s0 s E z h H locs → lv_has ls 8 [(0, .ref v0), (1, .int v1), (2, .int v2), (3, .int v3), (4, .int v4), (5, .int v5), (6, .int v6)] → k24 h v0 v1 v2 v3 v4 v5 v6 = some (r, h') → W p l e (rmO 0 0) s m args below meth c H locs 0 0 (Zt below s0 E z h' (some (.int r)) args s 0 0) (F0 m 24 ls [])) : ∀ (h : Hp) (v0 : Nat) (v1 : Int32) (v2 : Int32) (v3 : Int32) (v4 : Int32) (v5 : Int32) (v6 : Int32) (u0 : Int32) (H : Heap) (locs : List Loc) (ls : Array Slot), Pw s0 s E z h H locs → lv_has ls 8 [(0, .ref v0), (1, .int v1), (2, .int v2), (3, .int v3), (4, .int v4), (5, .int v5), (6, .int v6)] → f_X12_feed_77 n z k24 h v0 v1 v2 v3 v4 v5 v6 u0 = some (r, h') → W p l e (rmO 0 0) s m args below meth c H locs 0 0 (Zt below s0 E z h' (some (.int r)) args s 0 0) (F0 m 77 ls [.int u0]) := by
  have hx := B.1
  have hb := B.2.1
  intro h v0 v1 v2 v3 v4 v5 v6 u0 H locs ls hw hl hf
  unfold f_X12_feed_77 at hf
  refine lv_istore (lv' := [(7, .int u0), (0, .ref v0), (1, .int v1), (2, .int v2), (3, .int v3), (4, .int v4), (5, .int v5), (6, .int v6)]) hx hb dX12_feed_77 hl (by decide) rfl (fun ls hl => ?_)
  refine lv_aload_n hx hb dX12_feed_79 rfl (lv_at hl 1 rfl) ?_
  obtain ⟨a1, e, hf⟩ := ob hf
  refine q_getR e B hw fd_12_3.1 fd_12_3.2.1 fd_12_3.2.2.1 fd_12_3.2.2.2.1 fd_12_3.2.2.2.2 rfl tw_6_46 dX12_feed_80 ?_
  refine lv_aload_n hx hb dX12_feed_83 rfl (lv_at hl 1 rfl) ?_
  obtain ⟨x2, e, hf⟩ := ob hf
  refine q_getI e B hw fd_12_5.1 fd_12_5.2.1 fd_12_5.2.2.1 fd_12_5.2.2.2.1 fd_12_5.2.2.2.2 rfl tw_6_48 dX12_feed_84 ?_
  refine lv_iload hx hb dX12_feed_87 (lv_at hl 0 rfl) ?_
  refine lv_bipush (v := 24) hx hb dX12_feed_89 (by decide) ?_
  refine lv_bipush (v := 8) hx hb dX12_feed_91 (by decide) ?_
  refine lv_iload hx hb dX12_feed_93 (lv_at hl 7 rfl) ?_
  refine lv_iconst (v := 4) hx hb dX12_feed_95 (by decide) ?_
  obtain ⟨x3, e, hf⟩ := ob hf
  refine q_irem e hx hb dX12_feed_96 ?_
  refine lv_imul hx hb dX12_feed_97 ?_
  refine lv_isub hx hb dX12_feed_98 ?_
  refine lv_ishr hx hb dX12_feed_99 ?_
  refine lv_sipush (v := 255) hx hb dX12_feed_100 (by decide) ?_
  refine lv_iand hx hb dX12_feed_103 ?_
  obtain ⟨h4, e, hf⟩ := ob hf
  refine q_stI e B hw dX12_feed_104 (fun H locs hw => ?_)
  refine lv_aload_n hx hb dX12_feed_105 rfl (lv_at hl 1 rfl) ?_
  refine lv_dup hx hb dX12_feed_106 rfl ?_
  obtain ⟨x5, e, hf⟩ := ob hf
  refine q_getI e B hw fd_12_5.1 fd_12_5.2.1 fd_12_5.2.2.1 fd_12_5.2.2.2.1 fd_12_5.2.2.2.2 rfl tw_6_48 dX12_feed_107 ?_
  refine lv_iconst (v := 1) hx hb dX12_feed_110 (by decide) ?_
  refine lv_iadd hx hb dX12_feed_111 ?_
  obtain ⟨h6, e, hf⟩ := ob hf
  refine q_putI e B hw fd_12_5.1 fd_12_5.2.1 fd_12_5.2.2.1 fd_12_5.2.2.2.1 fd_12_5.2.2.2.2 rfl rfl (tyX12_ok 5 (by decide)) tyX12 tyX12_ok nmX12 tw_6_48 dX12_feed_112 (fun H locs hw => ?_)
  obtain ⟨x7, e, hf⟩ := ob hf
  refine lv_iinc (v := x7) (lv' := [(6, .int x7), (7, .int u0), (0, .ref v0), (1, .int v1), (2, .int v2), (3, .int v3), (4, .int v4), (5, .int v5)]) hx hb dX12_feed_115 hl (k := 7) rfl (Option.some.inj e) (by decide) rfl (fun ls hl => ?_)
  refine lv_goto (tgt := 24) hx hb dX12_feed_118 (by decide) ?_
  exact hk24 h6 v0 v1 v2 v3 v4 v5 x7 _ _ _ hw (lv_sub hl [2, 3, 4, 5, 6, 7, 0] rfl) hf
set_option maxHeartbeats 4000000 in
theorem w_X12_feed_24 {p : Program} {l : Launch} {e : Env} {s : State} {m : MethodId} {args : Array Value} {below : List Frame} {meth : Method} {c : Code} {s0 : State} {E : Ev} {z : Sh} {n : Nat} {r : Int32} {h' : Hp} (G : Gl s0 E) (B : Bd p s0 s E m c cX12_feed 8 RX12) (hz : s0.heap.size ≤ z.sz) (hc0 : s.heap.size + 0 = z.sz) (hr : meth.sig.returnType = (some .int)) (hlk : meth.locks = false) : ∀ (i : Nat), ∀ (h : Hp) (v0 : Nat) (v1 : Int32) (v2 : Int32) (v3 : Int32) (v4 : Int32) (v5 : Int32) (v6 : Int32) (H : Heap) (locs : List Loc) (ls : Array Slot), Pw s0 s E z h H locs → lv_has ls 8 [(0, .ref v0), (1, .int v1), (2, .int v2), (3, .int v3), (4, .int v4), (5, .int v5), (6, .int v6)] → f_X12_feed_24 n z i h v0 v1 v2 v3 v4 v5 v6 = some (r, h') → W p l e (rmO 0 0) s m args below meth c H locs 0 0 (Zt below s0 E z h' (some (.int r)) args s 0 0) (F0 m 24 ls []) := by
  have hx := B.1
  have hb := B.2.1
  intro i
  induction i with
  | zero =>
    intro h v0 v1 v2 v3 v4 v5 v6 H locs ls hw hl hf
    have hf := (f_X12_feed_24.eq_1 ..).symm.trans hf
    cases hf
  | succ i ih =>
    intro h v0 v1 v2 v3 v4 v5 v6 H locs ls hw hl hf
    have hf := (f_X12_feed_24.eq_2 ..).symm.trans hf
    refine lv_iload hx hb dX12_feed_24 (lv_at hl 6 rfl) ?_
    refine lv_bipush (v := 20) hx hb dX12_feed_26 (by decide) ?_
    refine lv_icmp_ge (tgt := 121) hx hb dX12_feed_28 (by decide) (fun c1 => ?_) (fun c1 => ?_)
    · have hf := (if_pos c1).symm.trans hf
      refine lv_aload_n hx hb dX12_feed_121 rfl (lv_at hl 0 rfl) ?_
      obtain ⟨x2, e, hf⟩ := ob hf
      refine q_getI e B hw fd_12_5.1 fd_12_5.2.1 fd_12_5.2.2.1 fd_12_5.2.2.2.1 fd_12_5.2.2.2.2 rfl tw_6_48 dX12_feed_122 ?_
      obtain ⟨rfl, rfl⟩ := so2 hf
      exact q_iret B hw hz hc0 hr hlk dX12_feed_125
    · have hf := (if_neg c1).symm.trans hf
      refine lv_iload hx hb dX12_feed_31 (lv_at hl 6 rfl) ?_
      refine lv_iconst (v := 4) hx hb dX12_feed_33 (by decide) ?_
      refine lv_icmp_ge (tgt := 41) hx hb dX12_feed_34 (by decide) (fun c3 => ?_) (fun c3 => ?_)
      · have hf := (if_pos c3).symm.trans hf
        refine lv_iload hx hb dX12_feed_41 (lv_at hl 6 rfl) ?_
        refine lv_bipush (v := 8) hx hb dX12_feed_43 (by decide) ?_
        refine lv_icmp_ge (tgt := 52) hx hb dX12_feed_45 (by decide) (fun c4 => ?_) (fun c4 => ?_)
        · have hf := (if_pos c4).symm.trans hf
          refine lv_iload hx hb dX12_feed_52 (lv_at hl 6 rfl) ?_
          refine lv_bipush (v := 12) hx hb dX12_feed_54 (by decide) ?_
          refine lv_icmp_ge (tgt := 63) hx hb dX12_feed_56 (by decide) (fun c5 => ?_) (fun c5 => ?_)
          · have hf := (if_pos c5).symm.trans hf
            refine lv_iload hx hb dX12_feed_63 (lv_at hl 6 rfl) ?_
            refine lv_bipush (v := 16) hx hb dX12_feed_65 (by decide) ?_
            refine lv_icmp_ge (tgt := 75) hx hb dX12_feed_67 (by decide) (fun c6 => ?_) (fun c6 => ?_)
            · have hf := (if_pos c6).symm.trans hf
              refine lv_iload hx hb dX12_feed_75 (lv_at hl 5 rfl) ?_
              exact w_X12_feed_77 G B hz hc0 hr hlk ih h v0 v1 v2 v3 v4 v5 v6 v5 _ _ _ hw (lv_sub hl [0, 1, 2, 3, 4, 5, 6] rfl) hf
            · have hf := (if_neg c6).symm.trans hf
              refine lv_iload hx hb dX12_feed_70 (lv_at hl 4 rfl) ?_
              refine lv_goto (tgt := 77) hx hb dX12_feed_72 (by decide) ?_
              exact w_X12_feed_77 G B hz hc0 hr hlk ih h v0 v1 v2 v3 v4 v5 v6 v4 _ _ _ hw (lv_sub hl [0, 1, 2, 3, 4, 5, 6] rfl) hf
          · have hf := (if_neg c5).symm.trans hf
            refine lv_iload_n hx hb dX12_feed_59 rfl (lv_at hl 3 rfl) ?_
            refine lv_goto (tgt := 77) hx hb dX12_feed_60 (by decide) ?_
            exact w_X12_feed_77 G B hz hc0 hr hlk ih h v0 v1 v2 v3 v4 v5 v6 v3 _ _ _ hw (lv_sub hl [0, 1, 2, 3, 4, 5, 6] rfl) hf
        · have hf := (if_neg c4).symm.trans hf
          refine lv_iload_n hx hb dX12_feed_48 rfl (lv_at hl 2 rfl) ?_
          refine lv_goto (tgt := 77) hx hb dX12_feed_49 (by decide) ?_
          exact w_X12_feed_77 G B hz hc0 hr hlk ih h v0 v1 v2 v3 v4 v5 v6 v2 _ _ _ hw (lv_sub hl [0, 1, 2, 3, 4, 5, 6] rfl) hf
      · have hf := (if_neg c3).symm.trans hf
        refine lv_iload_n hx hb dX12_feed_37 rfl (lv_at hl 1 rfl) ?_
        refine lv_goto (tgt := 77) hx hb dX12_feed_38 (by decide) ?_
        exact w_X12_feed_77 G B hz hc0 hr hlk ih h v0 v1 v2 v3 v4 v5 v6 v1 _ _ _ hw (lv_sub hl [0, 1, 2, 3, 4, 5, 6] rfl) hf
set_option maxHeartbeats 4000000 in
theorem c_X12_feed {l : Launch} {s0 : State} {E : Ev} (G : Gl s0 E) {n : Nat} {z : Sh} {h : Hp} {v0 : Nat} {v1 : Int32} {v2 : Int32} {v3 : Int32} {v4 : Int32} {v5 : Int32} {r : Int32} {h' : Hp} (hf : f_X12_feed n z h v0 v1 v2 v3 v4 v5 = some (r, h')) : Ct l s0 E yX12_feed cX12_feed 8 (some .int) 0 0 [.ref v0, .int v1, .int v2, .int v3, .int v4, .int v5] z h h' (some (.int r)) := by
  refine Ct.of G (by decide) (Nat.le_of_ble_eq_true rfl) ?_
  intro p e s m below meth c ls B hw hz hc0 hr hlk hl
  have B : Bd p s0 s E m c cX12_feed 8 RX12 := B
  have hx := B.1
  have hb := B.2.1
  have hl : lv_has ls 8 [(0, .ref v0), (1, .int v1), (2, .int v2), (3, .int v3), (4, .int v4), (5, .int v5)] := hl
  unfold f_X12_feed at hf
  obtain ⟨_, hf⟩ := if_some hf
  refine lv_aload_n hx hb dX12_feed_0 rfl (lv_at hl 0 rfl) ?_
  refine lv_iconst (v := 0) hx hb dX12_feed_1 (by decide) ?_
  obtain ⟨h1, e, hf⟩ := ob hf
  refine q_putI e B hw fd_12_0.1 fd_12_0.2.1 fd_12_0.2.2.1 fd_12_0.2.2.2.1 fd_12_0.2.2.2.2 rfl rfl (tyX12_ok 0 (by decide)) tyX12 tyX12_ok nmX12 tw_6_43 dX12_feed_2 (fun H locs hw => ?_)
  refine lv_aload_n hx hb dX12_feed_5 rfl (lv_at hl 0 rfl) ?_
  obtain ⟨x2, e, hf⟩ := ob hf
  refine q_getI e B hw fd_12_5.1 fd_12_5.2.1 fd_12_5.2.2.1 fd_12_5.2.2.2.1 fd_12_5.2.2.2.2 rfl tw_6_48 dX12_feed_6 ?_
  refine lv_bipush (v := 20) hx hb dX12_feed_9 (by decide) ?_
  refine lv_iadd hx hb dX12_feed_11 ?_
  refine lv_sipush (v := 900) hx hb dX12_feed_12 (by decide) ?_
  refine lv_icmp_le (tgt := 21) hx hb dX12_feed_15 (by decide) (fun c3 => ?_) (fun c3 => ?_)
  · have hf := (if_pos c3).symm.trans hf
    refine lv_iconst (v := 0) hx hb dX12_feed_21 (by decide) ?_
    refine lv_istore (lv' := [(6, .int 0), (0, .ref v0), (1, .int v1), (2, .int v2), (3, .int v3), (4, .int v4), (5, .int v5)]) hx hb dX12_feed_22 hl (by decide) rfl (fun ls hl => ?_)
    exact w_X12_feed_24 G B hz hc0 hr hlk  n h1 v0 v1 v2 v3 v4 v5 0 _ _ _ hw (lv_sub hl [1, 2, 3, 4, 5, 6, 0] rfl) hf
  · have hf := (if_neg c3).symm.trans hf
    refine lv_ldc hx hb B.2.2.2.1 (B.w tw_6_157 rfl) dX12_feed_18 ?_
    obtain ⟨rfl, rfl⟩ := so2 hf
    exact q_iret B hw hz hc0 hr hlk dX12_feed_20
/-! SecondLifeModel.see(I)I -/
def f_X12_see (z : Sh) (h : Hp) (v0 : Nat) (v1 : Int32) : Option (Int32) :=
  if z.K v0 = 12 then
    (gI z h 12 v0 8).bind fun x1 =>
    if x1 ≤ v1 then
      some ((-1) : Int32)
    else
      (gR z h 12 v0 3).bind fun a3 =>
      (ldI z h a3 v1).bind fun x4 =>
      some x4
  else none
theorem k_X12_see {z : Sh} {h : Hp} {v0 : Nat} {v1 : Int32} {w : Int32} (hf : f_X12_see z h v0 v1 = some w) : z.K v0 = 12 := by
  unfold f_X12_see at hf
  exact (if_some hf).1
set_option maxHeartbeats 4000000 in
theorem c_X12_see {l : Launch} {s0 : State} {E : Ev} (G : Gl s0 E) {z : Sh} {h : Hp} {v0 : Nat} {v1 : Int32} {r : Int32} (hf : f_X12_see z h v0 v1 = some r) : Ct l s0 E yX12_see cX12_see 2 (some .int) 0 0 [.ref v0, .int v1] z h h (some (.int r)) := by
  refine Ct.of G (by decide) (Nat.le_of_ble_eq_true rfl) ?_
  intro p e s m below meth c ls B hw hz hc0 hr hlk hl
  have B : Bd p s0 s E m c cX12_see 2 RX12 := B
  have hx := B.1
  have hb := B.2.1
  have hl : lv_has ls 2 [(0, .ref v0), (1, .int v1)] := hl
  unfold f_X12_see at hf
  obtain ⟨_, hf⟩ := if_some hf
  refine lv_iload_n hx hb dX12_see_0 rfl (lv_at hl 1 rfl) ?_
  refine lv_aload_n hx hb dX12_see_1 rfl (lv_at hl 0 rfl) ?_
  obtain ⟨x1, e, hf⟩ := ob hf
  refine q_getI e B hw fd_12_8.1 fd_12_8.2.1 fd_12_8.2.2.1 fd_12_8.2.2.2.1 fd_12_8.2.2.2.2 rfl tw_6_51 dX12_see_2 ?_
  refine lv_icmp_ge (tgt := 17) hx hb dX12_see_5 (by decide) (fun c2 => ?_) (fun c2 => ?_)
  · have hf := (if_pos c2).symm.trans hf
    refine lv_iconst (v := (-1)) hx hb dX12_see_17 (by decide) ?_
    obtain rfl := so hf
    exact q_iret B hw hz hc0 hr hlk dX12_see_18
  · have hf := (if_neg c2).symm.trans hf
    refine lv_aload_n hx hb dX12_see_8 rfl (lv_at hl 0 rfl) ?_
    obtain ⟨a3, e, hf⟩ := ob hf
    refine q_getR e B hw fd_12_3.1 fd_12_3.2.1 fd_12_3.2.2.1 fd_12_3.2.2.2.1 fd_12_3.2.2.2.2 rfl tw_6_46 dX12_see_9 ?_
    refine lv_iload_n hx hb dX12_see_12 rfl (lv_at hl 1 rfl) ?_
    obtain ⟨x4, e, hf⟩ := ob hf
    refine q_ldI e B hw dX12_see_13 ?_
    refine lv_goto (tgt := 18) hx hb dX12_see_14 (by decide) ?_
    obtain rfl := so hf
    exact q_iret B hw hz hc0 hr hlk dX12_see_18
/-! SecondLifeModel.isSmall(I)Z -/
def f_X12_isSmall (z : Sh) (h : Hp) (v0 : Int32) : Option (Int32) :=
  if v0 < 97 then
    some 0
  else
    if 122 < v0 then
      some 0
    else
      some 1
set_option maxHeartbeats 4000000 in
theorem c_X12_isSmall {l : Launch} {s0 : State} {E : Ev} (G : Gl s0 E) {z : Sh} {h : Hp} {v0 : Int32} {r : Int32} (hf : f_X12_isSmall z h v0 = some r) : Ct l s0 E yX12_isSmall cX12_isSmall 1 (some .boolean) 0 0 [.int v0] z h h (some (.int r)) := by
  refine Ct.of G (by decide) (Nat.le_of_ble_eq_true rfl) ?_
  intro p e s m below meth c ls B hw hz hc0 hr hlk hl
  have B : Bd p s0 s E m c cX12_isSmall 1 RX12 := B
  have hx := B.1
  have hb := B.2.1
  have hl : lv_has ls 1 [(0, .int v0)] := hl
  unfold f_X12_isSmall at hf
  refine lv_iload_n hx hb dX12_isSmall_0 rfl (lv_at hl 0 rfl) ?_
  refine lv_bipush (v := 97) hx hb dX12_isSmall_1 (by decide) ?_
  refine lv_icmp_lt (tgt := 16) hx hb dX12_isSmall_3 (by decide) (fun c1 => ?_) (fun c1 => ?_)
  · have hf := (if_pos c1).symm.trans hf
    refine lv_iconst (v := 0) hx hb dX12_isSmall_16 (by decide) ?_
    obtain rfl := so hf
    exact q_zret (Or.inl rfl) B hw hz hc0 hr hlk dX12_isSmall_17
  · have hf := (if_neg c1).symm.trans hf
    refine lv_iload_n hx hb dX12_isSmall_6 rfl (lv_at hl 0 rfl) ?_
    refine lv_bipush (v := 122) hx hb dX12_isSmall_7 (by decide) ?_
    refine lv_icmp_gt (tgt := 16) hx hb dX12_isSmall_9 (by decide) (fun c2 => ?_) (fun c2 => ?_)
    · have hf := (if_pos c2).symm.trans hf
      refine lv_iconst (v := 0) hx hb dX12_isSmall_16 (by decide) ?_
      obtain rfl := so hf
      exact q_zret (Or.inl rfl) B hw hz hc0 hr hlk dX12_isSmall_17
    · have hf := (if_neg c2).symm.trans hf
      refine lv_iconst (v := 1) hx hb dX12_isSmall_12 (by decide) ?_
      refine lv_goto (tgt := 17) hx hb dX12_isSmall_13 (by decide) ?_
      obtain rfl := so hf
      exact q_zret (Or.inr rfl) B hw hz hc0 hr hlk dX12_isSmall_17
/-! SecondLifeModel.isDigit(I)Z -/
def f_X12_isDigit (z : Sh) (h : Hp) (v0 : Int32) : Option (Int32) :=
  if v0 < 48 then
    some 0
  else
    if 57 < v0 then
      some 0
    else
      some 1
set_option maxHeartbeats 4000000 in
theorem c_X12_isDigit {l : Launch} {s0 : State} {E : Ev} (G : Gl s0 E) {z : Sh} {h : Hp} {v0 : Int32} {r : Int32} (hf : f_X12_isDigit z h v0 = some r) : Ct l s0 E yX12_isDigit cX12_isDigit 1 (some .boolean) 0 0 [.int v0] z h h (some (.int r)) := by
  refine Ct.of G (by decide) (Nat.le_of_ble_eq_true rfl) ?_
  intro p e s m below meth c ls B hw hz hc0 hr hlk hl
  have B : Bd p s0 s E m c cX12_isDigit 1 RX12 := B
  have hx := B.1
  have hb := B.2.1
  have hl : lv_has ls 1 [(0, .int v0)] := hl
  unfold f_X12_isDigit at hf
  refine lv_iload_n hx hb dX12_isDigit_0 rfl (lv_at hl 0 rfl) ?_
  refine lv_bipush (v := 48) hx hb dX12_isDigit_1 (by decide) ?_
  refine lv_icmp_lt (tgt := 16) hx hb dX12_isDigit_3 (by decide) (fun c1 => ?_) (fun c1 => ?_)
  · have hf := (if_pos c1).symm.trans hf
    refine lv_iconst (v := 0) hx hb dX12_isDigit_16 (by decide) ?_
    obtain rfl := so hf
    exact q_zret (Or.inl rfl) B hw hz hc0 hr hlk dX12_isDigit_17
  · have hf := (if_neg c1).symm.trans hf
    refine lv_iload_n hx hb dX12_isDigit_6 rfl (lv_at hl 0 rfl) ?_
    refine lv_bipush (v := 57) hx hb dX12_isDigit_7 (by decide) ?_
    refine lv_icmp_gt (tgt := 16) hx hb dX12_isDigit_9 (by decide) (fun c2 => ?_) (fun c2 => ?_)
    · have hf := (if_pos c2).symm.trans hf
      refine lv_iconst (v := 0) hx hb dX12_isDigit_16 (by decide) ?_
      obtain rfl := so hf
      exact q_zret (Or.inl rfl) B hw hz hc0 hr hlk dX12_isDigit_17
    · have hf := (if_neg c2).symm.trans hf
      refine lv_iconst (v := 1) hx hb dX12_isDigit_12 (by decide) ?_
      refine lv_goto (tgt := 17) hx hb dX12_isDigit_13 (by decide) ?_
      obtain rfl := so hf
      exact q_zret (Or.inr rfl) B hw hz hc0 hr hlk dX12_isDigit_17
/-! SecondLifeModel.fails(I)V -/
def f_X12_fails_23 (z : Sh) (h : Hp) (v0 : Nat) (u0 : Int32) (u1 : Nat) : Option (Hp) :=
  (pI z h 12 u1 11 u0).bind fun h1 =>
  (gI z h1 12 v0 6).bind fun x2 =>
  (pI z h1 12 v0 12 x2).bind fun h3 =>
  some h3
def f_X12_fails (z : Sh) (h : Hp) (v0 : Nat) (v1 : Int32) : Option (Hp) :=
  if z.K v0 = 12 then
    (gI z h 12 v0 11).bind fun x1 =>
    if x1 = 0 then
      (gI z h 12 v0 9).bind fun x3 =>
      if x3 = 26 then
        f_X12_fails_23 z h v0 1 v0
      else
        f_X12_fails_23 z h v0 v1 v0
    else
      some h
  else none
theorem k_X12_fails {z : Sh} {h : Hp} {v0 : Nat} {v1 : Int32} {w : Hp} (hf : f_X12_fails z h v0 v1 = some w) : z.K v0 = 12 := by
  unfold f_X12_fails at hf
  exact (if_some hf).1
set_option maxHeartbeats 4000000 in
theorem w_X12_fails_23 {p : Program} {l : Launch} {e : Env} {s : State} {m : MethodId} {args : Array Value} {below : List Frame} {meth : Method} {c : Code} {s0 : State} {E : Ev} {z : Sh} {h' : Hp} (G : Gl s0 E) (B : Bd p s0 s E m c cX12_fails 2 RX12) (hz : s0.heap.size ≤ z.sz) (hc0 : s.heap.size + 0 = z.sz) (hr : meth.sig.returnType = none) (hlk : meth.locks = false) : ∀ (h : Hp) (v0 : Nat) (u0 : Int32) (u1 : Nat) (H : Heap) (locs : List Loc) (ls : Array Slot), Pw s0 s E z h H locs → lv_has ls 2 [(0, .ref v0)] → f_X12_fails_23 z h v0 u0 u1 = some h' → W p l e (rmO 0 0) s m args below meth c H locs 0 0 (Zt below s0 E z h' (none) args s 0 0) (F0 m 23 ls [.int u0, .ref u1]) := by
  have hx := B.1
  have hb := B.2.1
  intro h v0 u0 u1 H locs ls hw hl hf
  unfold f_X12_fails_23 at hf
  obtain ⟨h1, e, hf⟩ := ob hf
  refine q_putI e B hw fd_12_11.1 fd_12_11.2.1 fd_12_11.2.2.1 fd_12_11.2.2.2.1 fd_12_11.2.2.2.2 rfl rfl (tyX12_ok 11 (by decide)) tyX12 tyX12_ok nmX12 tw_6_54 dX12_fails_23 (fun H locs hw => ?_)
  refine lv_aload_n hx hb dX12_fails_26 rfl (lv_at hl 0 rfl) ?_
  refine lv_aload_n hx hb dX12_fails_27 rfl (lv_at hl 0 rfl) ?_
  obtain ⟨x2, e, hf⟩ := ob hf
  refine q_getI e B hw fd_12_6.1 fd_12_6.2.1 fd_12_6.2.2.1 fd_12_6.2.2.2.1 fd_12_6.2.2.2.2 rfl tw_6_49 dX12_fails_28 ?_
  obtain ⟨h3, e, hf⟩ := ob hf
  refine q_putI e B hw fd_12_12.1 fd_12_12.2.1 fd_12_12.2.2.1 fd_12_12.2.2.2.1 fd_12_12.2.2.2.2 rfl rfl (tyX12_ok 12 (by decide)) tyX12 tyX12_ok nmX12 tw_6_55 dX12_fails_31 (fun H locs hw => ?_)
  obtain rfl := so hf
  exact q_vret B hw hz hc0 hr hlk dX12_fails_34
set_option maxHeartbeats 4000000 in
theorem c_X12_fails {l : Launch} {s0 : State} {E : Ev} (G : Gl s0 E) {z : Sh} {h : Hp} {v0 : Nat} {v1 : Int32} {h' : Hp} (hf : f_X12_fails z h v0 v1 = some h') : Ct l s0 E yX12_fails cX12_fails 2 none 0 0 [.ref v0, .int v1] z h h' (none) := by
  refine Ct.of G (by decide) (Nat.le_of_ble_eq_true rfl) ?_
  intro p e s m below meth c ls B hw hz hc0 hr hlk hl
  have B : Bd p s0 s E m c cX12_fails 2 RX12 := B
  have hx := B.1
  have hb := B.2.1
  have hl : lv_has ls 2 [(0, .ref v0), (1, .int v1)] := hl
  unfold f_X12_fails at hf
  obtain ⟨_, hf⟩ := if_some hf
  refine lv_aload_n hx hb dX12_fails_0 rfl (lv_at hl 0 rfl) ?_
  obtain ⟨x1, e, hf⟩ := ob hf
  refine q_getI e B hw fd_12_11.1 fd_12_11.2.1 fd_12_11.2.2.1 fd_12_11.2.2.2.1 fd_12_11.2.2.2.2 rfl tw_6_54 dX12_fails_1 ?_
  refine lv_if_eq (tgt := 8) hx hb dX12_fails_4 (by decide) (fun c2 => ?_) (fun c2 => ?_)
  · have hf := (if_pos c2).symm.trans hf
    refine lv_aload_n hx hb dX12_fails_8 rfl (lv_at hl 0 rfl) ?_
    refine lv_aload_n hx hb dX12_fails_9 rfl (lv_at hl 0 rfl) ?_
    obtain ⟨x3, e, hf⟩ := ob hf
    refine q_getI e B hw fd_12_9.1 fd_12_9.2.1 fd_12_9.2.2.1 fd_12_9.2.2.2.1 fd_12_9.2.2.2.2 rfl tw_6_52 dX12_fails_10 ?_
    refine lv_bipush (v := 26) hx hb dX12_fails_13 (by decide) ?_
    refine lv_icmp_ne (tgt := 22) hx hb dX12_fails_15 (by decide) (fun c4 => ?_) (fun c4 => ?_)
    · have hf := (if_neg c4).symm.trans hf
      refine lv_iload_n hx hb dX12_fails_22 rfl (lv_at hl 1 rfl) ?_
      exact w_X12_fails_23 G B hz hc0 hr hlk  h v0 v1 v0 _ _ _ hw (lv_sub hl [0] rfl) hf
    · have hf := (if_pos c4).symm.trans hf
      refine lv_iconst (v := 1) hx hb dX12_fails_18 (by decide) ?_
      refine lv_goto (tgt := 23) hx hb dX12_fails_19 (by decide) ?_
      exact w_X12_fails_23 G B hz hc0 hr hlk  h v0 1 v0 _ _ _ hw (lv_sub hl [0] rfl) hf
  · have hf := (if_neg c2).symm.trans hf
    obtain rfl := so hf
    exact q_vret B hw hz hc0 hr hlk dX12_fails_7
/-! SecondLifeModel.is(I)Z -/
def f_X12_is (z : Sh) (h : Hp) (v0 : Nat) (v1 : Int32) : Option (Int32) :=
  if z.K v0 = 12 then
    (gI z h 12 v0 11).bind fun x1 =>
    if x1 = 0 then
      (gI z h 12 v0 9).bind fun x3 =>
      if x3 = v1 then
        some 1
      else
        some 0
    else
      some 0
  else none
theorem k_X12_is {z : Sh} {h : Hp} {v0 : Nat} {v1 : Int32} {w : Int32} (hf : f_X12_is z h v0 v1 = some w) : z.K v0 = 12 := by
  unfold f_X12_is at hf
  exact (if_some hf).1
set_option maxHeartbeats 4000000 in
theorem c_X12_is {l : Launch} {s0 : State} {E : Ev} (G : Gl s0 E) {z : Sh} {h : Hp} {v0 : Nat} {v1 : Int32} {r : Int32} (hf : f_X12_is z h v0 v1 = some r) : Ct l s0 E yX12_is cX12_is 2 (some .boolean) 0 0 [.ref v0, .int v1] z h h (some (.int r)) := by
  refine Ct.of G (by decide) (Nat.le_of_ble_eq_true rfl) ?_
  intro p e s m below meth c ls B hw hz hc0 hr hlk hl
  have B : Bd p s0 s E m c cX12_is 2 RX12 := B
  have hx := B.1
  have hb := B.2.1
  have hl : lv_has ls 2 [(0, .ref v0), (1, .int v1)] := hl
  unfold f_X12_is at hf
  obtain ⟨_, hf⟩ := if_some hf
  refine lv_aload_n hx hb dX12_is_0 rfl (lv_at hl 0 rfl) ?_
  obtain ⟨x1, e, hf⟩ := ob hf
  refine q_getI e B hw fd_12_11.1 fd_12_11.2.1 fd_12_11.2.2.1 fd_12_11.2.2.2.1 fd_12_11.2.2.2.2 rfl tw_6_54 dX12_is_1 ?_
  refine lv_if_ne (tgt := 19) hx hb dX12_is_4 (by decide) (fun c2 => ?_) (fun c2 => ?_)
  · have hf := (if_neg c2).symm.trans hf
    refine lv_iconst (v := 0) hx hb dX12_is_19 (by decide) ?_
    obtain rfl := so hf
    exact q_zret (Or.inl rfl) B hw hz hc0 hr hlk dX12_is_20
  · have hf := (if_pos c2).symm.trans hf
    refine lv_aload_n hx hb dX12_is_7 rfl (lv_at hl 0 rfl) ?_
    obtain ⟨x3, e, hf⟩ := ob hf
    refine q_getI e B hw fd_12_9.1 fd_12_9.2.1 fd_12_9.2.2.1 fd_12_9.2.2.2.1 fd_12_9.2.2.2.2 rfl tw_6_52 dX12_is_8 ?_
    refine lv_iload_n hx hb dX12_is_11 rfl (lv_at hl 1 rfl) ?_
    refine lv_icmp_ne (tgt := 19) hx hb dX12_is_12 (by decide) (fun c4 => ?_) (fun c4 => ?_)
    · have hf := (if_neg c4).symm.trans hf
      refine lv_iconst (v := 0) hx hb dX12_is_19 (by decide) ?_
      obtain rfl := so hf
      exact q_zret (Or.inl rfl) B hw hz hc0 hr hlk dX12_is_20
    · have hf := (if_pos c4).symm.trans hf
      refine lv_iconst (v := 1) hx hb dX12_is_15 (by decide) ?_
      refine lv_goto (tgt := 20) hx hb dX12_is_16 (by decide) ?_
      obtain rfl := so hf
      exact q_zret (Or.inr rfl) B hw hz hc0 hr hlk dX12_is_20
/-! SecondLifeModel.isIn(JI)Z -/
def f_X12_isIn (z : Sh) (h : Hp) (v0 : Int64) (v2 : Int32) : Option (Int32) :=
  if (lg_cmp ((v0 >>> (Int32.toInt64 v2 &&& 63)) &&& 1) 1) = 0 then
    some 1
  else
    some 0
set_option maxHeartbeats 4000000 in
theorem c_X12_isIn {l : Launch} {s0 : State} {E : Ev} (G : Gl s0 E) {z : Sh} {h : Hp} {v0 : Int64} {v2 : Int32} {r : Int32} (hf : f_X12_isIn z h v0 v2 = some r) : Ct l s0 E yX12_isIn cX12_isIn 3 (some .boolean) 0 0 [.long v0, .int v2] z h h (some (.int r)) := by
  refine Ct.of G (by decide) (Nat.le_of_ble_eq_true rfl) ?_
  intro p e s m below meth c ls B hw hz hc0 hr hlk hl
  have B : Bd p s0 s E m c cX12_isIn 3 RX12 := B
  have hx := B.1
  have hb := B.2.1
  have hl : lv_has ls 3 [(0, .long v0), (2, .int v2)] := hl
  unfold f_X12_isIn at hf
  refine lv_lload_n hx hb dX12_isIn_0 rfl (lv_at hl 0 rfl) ?_
  refine lv_iload_n hx hb dX12_isIn_1 rfl (lv_at hl 1 rfl) ?_
  refine lv_lshr (v := (v0 >>> (Int32.toInt64 v2 &&& 63))) hx hb dX12_isIn_2 rfl ?_
  refine lv_lconst (v := 1) hx hb dX12_isIn_3 (by decide) ?_
  refine lv_land hx hb dX12_isIn_4 ?_
  refine lv_lconst (v := 1) hx hb dX12_isIn_5 (by decide) ?_
  refine W.lcmp hx hb dX12_isIn_6 ?_
  refine lv_if_ne (tgt := 14) hx hb dX12_isIn_7 (by decide) (fun c1 => ?_) (fun c1 => ?_)
  · have hf := (if_neg c1).symm.trans hf
    refine lv_iconst (v := 0) hx hb dX12_isIn_14 (by decide) ?_
    obtain rfl := so hf
    exact q_zret (Or.inl rfl) B hw hz hc0 hr hlk dX12_isIn_15
  · have hf := (if_pos c1).symm.trans hf
    refine lv_iconst (v := 1) hx hb dX12_isIn_10 (by decide) ?_
    refine lv_goto (tgt := 15) hx hb dX12_isIn_11 (by decide) ?_
    obtain rfl := so hf
    exact q_zret (Or.inr rfl) B hw hz hc0 hr hlk dX12_isIn_15
/-! SecondLifeModel.wordOf(I)I -/
def f_X12_wordOf (z : Sh) (h : Hp) (v0 : Nat) (v1 : Int32) : Option (Int32) :=
  if z.K v0 = 12 then
    if v1 = 4 then
      some (0 : Int32)
    else
      if v1 = 14 then
        some (1 : Int32)
      else
        (gI z h 12 v0 15).bind fun x3 =>
        if x3 = 0 then
          (f_X12_within z h (Int32.toInt64 v1) 15 19).bind fun x5 =>
          if x5 = 0 then
            some ((-1) : Int32)
          else
            some ((2 + v1) - 15)
        else
          some ((-1) : Int32)
  else none
theorem k_X12_wordOf {z : Sh} {h : Hp} {v0 : Nat} {v1 : Int32} {w : Int32} (hf : f_X12_wordOf z h v0 v1 = some w) : z.K v0 = 12 := by
  unfold f_X12_wordOf at hf
  exact (if_some hf).1
set_option maxHeartbeats 4000000 in
theorem c_X12_wordOf {l : Launch} {s0 : State} {E : Ev} (G : Gl s0 E) {z : Sh} {h : Hp} {v0 : Nat} {v1 : Int32} {r : Int32} (hf : f_X12_wordOf z h v0 v1 = some r) : Ct l s0 E yX12_wordOf cX12_wordOf 2 (some .int) 1 25 [.ref v0, .int v1] z h h (some (.int r)) := by
  refine Ct.of G (by decide) (Nat.le_of_ble_eq_true rfl) ?_
  intro p e s m below meth c ls B hw hz hc0 hr hlk hl
  have B : Bd p s0 s E m c cX12_wordOf 2 RX12 := B
  have hx := B.1
  have hb := B.2.1
  have hl : lv_has ls 2 [(0, .ref v0), (1, .int v1)] := hl
  unfold f_X12_wordOf at hf
  obtain ⟨_, hf⟩ := if_some hf
  refine lv_iload_n hx hb dX12_wordOf_0 rfl (lv_at hl 1 rfl) ?_
  refine lv_iconst (v := 4) hx hb dX12_wordOf_1 (by decide) ?_
  refine lv_icmp_ne (tgt := 7) hx hb dX12_wordOf_2 (by decide) (fun c1 => ?_) (fun c1 => ?_)
  · have hf := (if_neg c1).symm.trans hf
    refine lv_iload_n hx hb dX12_wordOf_7 rfl (lv_at hl 1 rfl) ?_
    refine lv_bipush (v := 14) hx hb dX12_wordOf_8 (by decide) ?_
    refine lv_icmp_ne (tgt := 15) hx hb dX12_wordOf_10 (by decide) (fun c2 => ?_) (fun c2 => ?_)
    · have hf := (if_neg c2).symm.trans hf
      refine lv_aload_n hx hb dX12_wordOf_15 rfl (lv_at hl 0 rfl) ?_
      obtain ⟨x3, e, hf⟩ := ob hf
      refine q_getI e B hw fd_12_15.1 fd_12_15.2.1 fd_12_15.2.2.1 fd_12_15.2.2.2.1 fd_12_15.2.2.2.2 rfl tw_6_58 dX12_wordOf_16 ?_
      refine lv_if_ne (tgt := 45) hx hb dX12_wordOf_19 (by decide) (fun c4 => ?_) (fun c4 => ?_)
      · have hf := (if_neg c4).symm.trans hf
        refine lv_iconst (v := (-1)) hx hb dX12_wordOf_45 (by decide) ?_
        obtain rfl := so hf
        exact q_iret B hw hz hc0 hr hlk dX12_wordOf_46
      · have hf := (if_pos c4).symm.trans hf
        refine lv_iload_n hx hb dX12_wordOf_22 rfl (lv_at hl 1 rfl) ?_
        refine lv_i2l (v := (Int32.toInt64 v1)) hx hb dX12_wordOf_23 rfl ?_
        refine lv_ldc2 hx hb B.2.2.2.1 (B.w tw_7_4 rfl) dX12_wordOf_24 ?_
        refine lv_ldc2 hx hb B.2.2.2.1 (B.w tw_7_5 rfl) dX12_wordOf_27 ?_
        obtain ⟨x5, e, hf⟩ := ob hf
        refine q_callS (As := [.long (Int32.toInt64 v1), .long 15, .long 19]) (rest := []) (st1 := [.int x5]) (c_X12_within G e) B hw hz hc0 my_X12_within mv_X12_within tw_6_162 ⟨Nat.le_of_ble_eq_true rfl, Nat.le_of_ble_eq_true rfl⟩ ⟨Nat.zero_le _, Nat.zero_le _⟩ rfl hl.1 rfl rfl (Nat.le_of_ble_eq_true rfl) dX12_wordOf_30 (fun H locs hw => ?_)
        refine lv_if_eq (tgt := 45) hx hb dX12_wordOf_33 (by decide) (fun c6 => ?_) (fun c6 => ?_)
        · have hf := (if_pos c6).symm.trans hf
          refine lv_iconst (v := (-1)) hx hb dX12_wordOf_45 (by decide) ?_
          obtain rfl := so hf
          exact q_iret B hw hz hc0 hr hlk dX12_wordOf_46
        · have hf := (if_neg c6).symm.trans hf
          refine lv_iconst (v := 2) hx hb dX12_wordOf_36 (by decide) ?_
          refine lv_iload_n hx hb dX12_wordOf_37 rfl (lv_at hl 1 rfl) ?_
          refine lv_iadd hx hb dX12_wordOf_38 ?_
          refine lv_bipush (v := 15) hx hb dX12_wordOf_39 (by decide) ?_
          refine lv_isub hx hb dX12_wordOf_41 ?_
          refine lv_goto (tgt := 46) hx hb dX12_wordOf_42 (by decide) ?_
          obtain rfl := so hf
          exact q_iret B hw hz hc0 hr hlk dX12_wordOf_46
    · have hf := (if_pos c2).symm.trans hf
      refine lv_iconst (v := 1) hx hb dX12_wordOf_13 (by decide) ?_
      obtain rfl := so hf
      exact q_iret B hw hz hc0 hr hlk dX12_wordOf_14
  · have hf := (if_pos c1).symm.trans hf
    refine lv_iconst (v := 0) hx hb dX12_wordOf_5 (by decide) ?_
    obtain rfl := so hf
    exact q_iret B hw hz hc0 hr hlk dX12_wordOf_6
