/-! SecondLifeModel.codes(I)V -/
def f_X12_codes (z : Sh) (h : Hp) (v0 : Nat) (v1 : Int32) : Option (Hp) :=
  if z.K v0 = 12 then
    (gI z h 12 v0 11).bind fun x1 =>
    if x1 = 0 then
      (gR z h 12 v0 4).bind fun a3 =>
      (gR z h 12 v0 4).bind fun a4 =>
      (ldI z h a4 557).bind fun x5 =>
      (stI z h a3 (558 + x5) v1).bind fun h6 =>
      (gR z h6 12 v0 4).bind fun a7 =>
      (ldI z h6 a7 557).bind fun x8 =>
      (stI z h6 a7 557 (x8 + 1)).bind fun h9 =>
      some h9
    else
      some h
  else none
theorem k_X12_codes {z : Sh} {h : Hp} {v0 : Nat} {v1 : Int32} {w : Hp} (hf : f_X12_codes z h v0 v1 = some w) : z.K v0 = 12 := by
  unfold f_X12_codes at hf
  exact (if_some hf).1
set_option maxHeartbeats 4000000 in
theorem c_X12_codes {l : Launch} {s0 : State} {E : Ev} (G : Gl s0 E) {z : Sh} {h : Hp} {v0 : Nat} {v1 : Int32} {h' : Hp} (hf : f_X12_codes z h v0 v1 = some h') : Ct l s0 E yX12_codes cX12_codes 2 none 0 0 [.ref v0, .int v1] z h h' (none) := by
  refine Ct.of G (by decide) (Nat.le_of_ble_eq_true rfl) ?_
  intro p e s m below meth c ls B hw hz hc0 hr hlk hl
  have B : Bd p s0 s E m c cX12_codes 2 RX12 := B
  have hx := B.1
  have hb := B.2.1
  have hl : lv_has ls 2 [(0, .ref v0), (1, .int v1)] := hl
  unfold f_X12_codes at hf
  obtain ⟨_, hf⟩ := if_some hf
  refine lv_aload_n hx hb dX12_codes_0 rfl (lv_at hl 0 rfl) ?_
  obtain ⟨x1, e, hf⟩ := ob hf
  refine q_getI e B hw fd_12_11.1 fd_12_11.2.1 fd_12_11.2.2.1 fd_12_11.2.2.2.1 fd_12_11.2.2.2.2 rfl tw_6_54 dX12_codes_1 ?_
  refine lv_if_eq (tgt := 8) hx hb dX12_codes_4 (by decide) (fun c2 => ?_) (fun c2 => ?_)
  · have hf := (if_pos c2).symm.trans hf
    refine lv_aload_n hx hb dX12_codes_8 rfl (lv_at hl 0 rfl) ?_
    obtain ⟨a3, e, hf⟩ := ob hf
    refine q_getR e B hw fd_12_4.1 fd_12_4.2.1 fd_12_4.2.2.1 fd_12_4.2.2.2.1 fd_12_4.2.2.2.2 rfl tw_6_47 dX12_codes_9 ?_
    refine lv_sipush (v := 558) hx hb dX12_codes_12 (by decide) ?_
    refine lv_aload_n hx hb dX12_codes_15 rfl (lv_at hl 0 rfl) ?_
    obtain ⟨a4, e, hf⟩ := ob hf
    refine q_getR e B hw fd_12_4.1 fd_12_4.2.1 fd_12_4.2.2.1 fd_12_4.2.2.2.1 fd_12_4.2.2.2.2 rfl tw_6_47 dX12_codes_16 ?_
    refine lv_sipush (v := 557) hx hb dX12_codes_19 (by decide) ?_
    obtain ⟨x5, e, hf⟩ := ob hf
    refine q_ldI e B hw dX12_codes_22 ?_
    refine lv_iadd hx hb dX12_codes_23 ?_
    refine lv_iload_n hx hb dX12_codes_24 rfl (lv_at hl 1 rfl) ?_
    obtain ⟨h6, e, hf⟩ := ob hf
    refine q_stI e B hw dX12_codes_25 (fun H locs hw => ?_)
    refine lv_aload_n hx hb dX12_codes_26 rfl (lv_at hl 0 rfl) ?_
    obtain ⟨a7, e, hf⟩ := ob hf
    refine q_getR e B hw fd_12_4.1 fd_12_4.2.1 fd_12_4.2.2.1 fd_12_4.2.2.2.1 fd_12_4.2.2.2.2 rfl tw_6_47 dX12_codes_27 ?_
    refine lv_sipush (v := 557) hx hb dX12_codes_30 (by decide) ?_
    refine lv_dup2_11 hx hb dX12_codes_33 rfl rfl ?_
    obtain ⟨x8, e, hf⟩ := ob hf
    refine q_ldI e B hw dX12_codes_34 ?_
    refine lv_iconst (v := 1) hx hb dX12_codes_35 (by decide) ?_
    refine lv_iadd hx hb dX12_codes_36 ?_
    obtain ⟨h9, e, hf⟩ := ob hf
    refine q_stI e B hw dX12_codes_37 (fun H locs hw => ?_)
    obtain rfl := so hf
    exact q_vret B hw hz hc0 hr hlk dX12_codes_38
  · have hf := (if_neg c2).symm.trans hf
    obtain rfl := so hf
    exact q_vret B hw hz hc0 hr hlk dX12_codes_7
/-! SecondLifeModel.fault(I)I -/
def f_X12_fault (z : Sh) (h : Hp) (v0 : Nat) (v1 : Int32) : Option (Int32 × Hp) :=
  if z.K v0 = 12 then
    (pI z h 12 v0 0 0).bind fun h1 =>
    if v1 = 0 then
      (gI z h1 12 v0 13).bind fun x5 =>
      some (x5, h1)
    else
      if v1 = 1 then
        (gI z h1 12 v0 14).bind fun x4 =>
        some (x4, h1)
      else
        some (((-1) : Int32), h1)
  else none
theorem k_X12_fault {z : Sh} {h : Hp} {v0 : Nat} {v1 : Int32} {w : Int32 × Hp} (hf : f_X12_fault z h v0 v1 = some w) : z.K v0 = 12 := by
  unfold f_X12_fault at hf
  exact (if_some hf).1
set_option maxHeartbeats 4000000 in
theorem c_X12_fault {l : Launch} {s0 : State} {E : Ev} (G : Gl s0 E) {z : Sh} {h : Hp} {v0 : Nat} {v1 : Int32} {r : Int32} {h' : Hp} (hf : f_X12_fault z h v0 v1 = some (r, h')) : Ct l s0 E yX12_fault cX12_fault 2 (some .int) 0 0 [.ref v0, .int v1] z h h' (some (.int r)) := by
  refine Ct.of G (by decide) (Nat.le_of_ble_eq_true rfl) ?_
  intro p e s m below meth c ls B hw hz hc0 hr hlk hl
  have B : Bd p s0 s E m c cX12_fault 2 RX12 := B
  have hx := B.1
  have hb := B.2.1
  have hl : lv_has ls 2 [(0, .ref v0), (1, .int v1)] := hl
  unfold f_X12_fault at hf
  obtain ⟨_, hf⟩ := if_some hf
  refine lv_aload_n hx hb dX12_fault_0 rfl (lv_at hl 0 rfl) ?_
  refine lv_iconst (v := 0) hx hb dX12_fault_1 (by decide) ?_
  obtain ⟨h1, e, hf⟩ := ob hf
  refine q_putI e B hw fd_12_0.1 fd_12_0.2.1 fd_12_0.2.2.1 fd_12_0.2.2.2.1 fd_12_0.2.2.2.2 rfl rfl (tyX12_ok 0 (by decide)) tyX12 tyX12_ok nmX12 tw_6_43 dX12_fault_2 (fun H locs hw => ?_)
  refine lv_iload_n hx hb dX12_fault_5 rfl (lv_at hl 1 rfl) ?_
  refine lv_if_ne (tgt := 16) hx hb dX12_fault_6 (by decide) (fun c2 => ?_) (fun c2 => ?_)
  · have hf := (if_neg c2).symm.trans hf
    refine lv_iload_n hx hb dX12_fault_16 rfl (lv_at hl 1 rfl) ?_
    refine lv_iconst (v := 1) hx hb dX12_fault_17 (by decide) ?_
    refine lv_icmp_ne (tgt := 28) hx hb dX12_fault_18 (by decide) (fun c3 => ?_) (fun c3 => ?_)
    · have hf := (if_neg c3).symm.trans hf
      refine lv_iconst (v := (-1)) hx hb dX12_fault_28 (by decide) ?_
      obtain ⟨rfl, rfl⟩ := so2 hf
      exact q_iret B hw hz hc0 hr hlk dX12_fault_29
    · have hf := (if_pos c3).symm.trans hf
      refine lv_aload_n hx hb dX12_fault_21 rfl (lv_at hl 0 rfl) ?_
      obtain ⟨x4, e, hf⟩ := ob hf
      refine q_getI e B hw fd_12_14.1 fd_12_14.2.1 fd_12_14.2.2.1 fd_12_14.2.2.2.1 fd_12_14.2.2.2.2 rfl tw_6_57 dX12_fault_22 ?_
      refine lv_goto (tgt := 29) hx hb dX12_fault_25 (by decide) ?_
      obtain ⟨rfl, rfl⟩ := so2 hf
      exact q_iret B hw hz hc0 hr hlk dX12_fault_29
  · have hf := (if_pos c2).symm.trans hf
    refine lv_aload_n hx hb dX12_fault_9 rfl (lv_at hl 0 rfl) ?_
    obtain ⟨x5, e, hf⟩ := ob hf
    refine q_getI e B hw fd_12_13.1 fd_12_13.2.1 fd_12_13.2.2.1 fd_12_13.2.2.2.1 fd_12_13.2.2.2.2 rfl tw_6_56 dX12_fault_10 ?_
    refine lv_goto (tgt := 29) hx hb dX12_fault_13 (by decide) ?_
    obtain ⟨rfl, rfl⟩ := so2 hf
    exact q_iret B hw hz hc0 hr hlk dX12_fault_29
/-! SecondLifeModel.isPerson(J)Z -/
def f_X12_isPerson (z : Sh) (h : Hp) (v0 : Nat) (v1 : Int64) : Option (Int32) :=
  if z.K v0 = 12 then
    (gR z h 12 v0 1).bind fun a1 =>
    (ldI z h a1 3).bind fun x2 =>
    (f_X12_within z h v1 0 (Int32.toInt64 (x2 - 1))).bind fun x3 =>
    bz x3
  else none
theorem k_X12_isPerson {z : Sh} {h : Hp} {v0 : Nat} {v1 : Int64} {w : Int32} (hf : f_X12_isPerson z h v0 v1 = some w) : z.K v0 = 12 := by
  unfold f_X12_isPerson at hf
  exact (if_some hf).1
set_option maxHeartbeats 4000000 in
theorem c_X12_isPerson {l : Launch} {s0 : State} {E : Ev} (G : Gl s0 E) {z : Sh} {h : Hp} {v0 : Nat} {v1 : Int64} {r : Int32} (hf : f_X12_isPerson z h v0 v1 = some r) : Ct l s0 E yX12_isPerson cX12_isPerson 3 (some .boolean) 1 25 [.ref v0, .long v1] z h h (some (.int r)) := by
  refine Ct.of G (by decide) (Nat.le_of_ble_eq_true rfl) ?_
  intro p e s m below meth c ls B hw hz hc0 hr hlk hl
  have B : Bd p s0 s E m c cX12_isPerson 3 RX12 := B
  have hx := B.1
  have hb := B.2.1
  have hl : lv_has ls 3 [(0, .ref v0), (1, .long v1)] := hl
  unfold f_X12_isPerson at hf
  obtain ⟨_, hf⟩ := if_some hf
  refine lv_lload_n hx hb dX12_isPerson_0 rfl (lv_at hl 1 rfl) ?_
  refine lv_lconst (v := 0) hx hb dX12_isPerson_1 (by decide) ?_
  refine lv_aload_n hx hb dX12_isPerson_2 rfl (lv_at hl 0 rfl) ?_
  obtain ⟨a1, e, hf⟩ := ob hf
  refine q_getR e B hw fd_12_1.1 fd_12_1.2.1 fd_12_1.2.2.1 fd_12_1.2.2.2.1 fd_12_1.2.2.2.2 rfl tw_6_44 dX12_isPerson_3 ?_
  refine lv_iconst (v := 3) hx hb dX12_isPerson_6 (by decide) ?_
  obtain ⟨x2, e, hf⟩ := ob hf
  refine q_ldI e B hw dX12_isPerson_7 ?_
  refine lv_iconst (v := 1) hx hb dX12_isPerson_8 (by decide) ?_
  refine lv_isub hx hb dX12_isPerson_9 ?_
  refine lv_i2l (v := (Int32.toInt64 (x2 - 1))) hx hb dX12_isPerson_10 rfl ?_
  obtain ⟨x3, e, hf⟩ := ob hf
  refine q_callS (As := [.long v1, .long 0, .long (Int32.toInt64 (x2 - 1))]) (rest := []) (st1 := [.int x3]) (c_X12_within G e) B hw hz hc0 my_X12_within mv_X12_within tw_6_162 ⟨Nat.le_of_ble_eq_true rfl, Nat.le_of_ble_eq_true rfl⟩ ⟨Nat.zero_le _, Nat.zero_le _⟩ rfl hl.1 rfl rfl (Nat.le_of_ble_eq_true rfl) dX12_isPerson_11 (fun H locs hw => ?_)
  obtain ⟨e1, e⟩ := if_some hf
  cases e
  exact q_zret e1 B hw hz hc0 hr hlk dX12_isPerson_14
/-! SecondLifeModel.isTrade(J)Z -/
def f_X12_isTrade (z : Sh) (h : Hp) (v0 : Nat) (v1 : Int64) : Option (Int32) :=
  if z.K v0 = 12 then
    (gR z h 12 v0 1).bind fun a1 =>
    (ldI z h a1 2).bind fun x2 =>
    (f_X12_within z h v1 0 (Int32.toInt64 (x2 - 1))).bind fun x3 =>
    bz x3
  else none
theorem k_X12_isTrade {z : Sh} {h : Hp} {v0 : Nat} {v1 : Int64} {w : Int32} (hf : f_X12_isTrade z h v0 v1 = some w) : z.K v0 = 12 := by
  unfold f_X12_isTrade at hf
  exact (if_some hf).1
set_option maxHeartbeats 4000000 in
theorem c_X12_isTrade {l : Launch} {s0 : State} {E : Ev} (G : Gl s0 E) {z : Sh} {h : Hp} {v0 : Nat} {v1 : Int64} {r : Int32} (hf : f_X12_isTrade z h v0 v1 = some r) : Ct l s0 E yX12_isTrade cX12_isTrade 3 (some .boolean) 1 25 [.ref v0, .long v1] z h h (some (.int r)) := by
  refine Ct.of G (by decide) (Nat.le_of_ble_eq_true rfl) ?_
  intro p e s m below meth c ls B hw hz hc0 hr hlk hl
  have B : Bd p s0 s E m c cX12_isTrade 3 RX12 := B
  have hx := B.1
  have hb := B.2.1
  have hl : lv_has ls 3 [(0, .ref v0), (1, .long v1)] := hl
  unfold f_X12_isTrade at hf
  obtain ⟨_, hf⟩ := if_some hf
  refine lv_lload_n hx hb dX12_isTrade_0 rfl (lv_at hl 1 rfl) ?_
  refine lv_lconst (v := 0) hx hb dX12_isTrade_1 (by decide) ?_
  refine lv_aload_n hx hb dX12_isTrade_2 rfl (lv_at hl 0 rfl) ?_
  obtain ⟨a1, e, hf⟩ := ob hf
  refine q_getR e B hw fd_12_1.1 fd_12_1.2.1 fd_12_1.2.2.1 fd_12_1.2.2.2.1 fd_12_1.2.2.2.2 rfl tw_6_44 dX12_isTrade_3 ?_
  refine lv_iconst (v := 2) hx hb dX12_isTrade_6 (by decide) ?_
  obtain ⟨x2, e, hf⟩ := ob hf
  refine q_ldI e B hw dX12_isTrade_7 ?_
  refine lv_iconst (v := 1) hx hb dX12_isTrade_8 (by decide) ?_
  refine lv_isub hx hb dX12_isTrade_9 ?_
  refine lv_i2l (v := (Int32.toInt64 (x2 - 1))) hx hb dX12_isTrade_10 rfl ?_
  obtain ⟨x3, e, hf⟩ := ob hf
  refine q_callS (As := [.long v1, .long 0, .long (Int32.toInt64 (x2 - 1))]) (rest := []) (st1 := [.int x3]) (c_X12_within G e) B hw hz hc0 my_X12_within mv_X12_within tw_6_162 ⟨Nat.le_of_ble_eq_true rfl, Nat.le_of_ble_eq_true rfl⟩ ⟨Nat.zero_le _, Nat.zero_le _⟩ rfl hl.1 rfl rfl (Nat.le_of_ble_eq_true rfl) dX12_isTrade_11 (fun H locs hw => ?_)
  obtain ⟨e1, e⟩ := if_some hf
  cases e
  exact q_zret e1 B hw hz hc0 hr hlk dX12_isTrade_14
/-! SecondLifeModel.bitsOf(I)I -/
def f_X12_bitsOf_4 (n : Nat) (z : Sh) (h : Hp) : Nat → Int32 → Int32 → Int32 → Option (Int32)
  | 0, _, _, _ => none
  | i + 1, v0, v1, v2 =>
    if 10 ≤ v2 then
      some v1
    else
      (some (v1 + ((v0 >>> (v2 &&& 31)) &&& 1))).bind fun x2 =>
      (some (v2 + 1)).bind fun x3 =>
      (f_X12_bitsOf_4 n z h i) v0 x2 x3
def f_X12_bitsOf (n : Nat) (z : Sh) (h : Hp) (v0 : Int32) : Option (Int32) :=
  f_X12_bitsOf_4 n z h n v0 0 0
set_option maxHeartbeats 4000000 in
theorem w_X12_bitsOf_4 {p : Program} {l : Launch} {e : Env} {s : State} {m : MethodId} {args : Array Value} {below : List Frame} {meth : Method} {c : Code} {s0 : State} {E : Ev} {z : Sh} {h : Hp} {n : Nat} {r : Int32} (G : Gl s0 E) (B : Bd p s0 s E m c cX12_bitsOf 3 RX12) (hz : s0.heap.size ≤ z.sz) (hc0 : s.heap.size + 0 = z.sz) (hr : meth.sig.returnType = (some .int)) (hlk : meth.locks = false) : ∀ (i : Nat), ∀ (v0 : Int32) (v1 : Int32) (v2 : Int32) (H : Heap) (locs : List Loc) (ls : Array Slot), Pw s0 s E z h H locs → lv_has ls 3 [(0, .int v0), (1, .int v1), (2, .int v2)] → f_X12_bitsOf_4 n z h i v0 v1 v2 = some r → W p l e (rmO 0 0) s m args below meth c H locs 0 0 (Zt below s0 E z h (some (.int r)) args s 0 0) (F0 m 4 ls []) := by
  have hx := B.1
  have hb := B.2.1
  intro i
  induction i with
  | zero =>
    intro v0 v1 v2 H locs ls hw hl hf
    have hf := (f_X12_bitsOf_4.eq_1 ..).symm.trans hf
    cases hf
  | succ i ih =>
    intro v0 v1 v2 H locs ls hw hl hf
    have hf := (f_X12_bitsOf_4.eq_2 ..).symm.trans hf
    refine lv_iload_n hx hb dX12_bitsOf_4 rfl (lv_at hl 2 rfl) ?_
    refine lv_bipush (v := 10) hx hb dX12_bitsOf_5 (by decide) ?_
    refine lv_icmp_ge (tgt := 24) hx hb dX12_bitsOf_7 (by decide) (fun c1 => ?_) (fun c1 => ?_)
    · have hf := (if_pos c1).symm.trans hf
      refine lv_iload_n hx hb dX12_bitsOf_24 rfl (lv_at hl 1 rfl) ?_
      obtain rfl := so hf
      exact q_iret B hw hz hc0 hr hlk dX12_bitsOf_25
    · have hf := (if_neg c1).symm.trans hf
      refine lv_iload_n hx hb dX12_bitsOf_10 rfl (lv_at hl 1 rfl) ?_
      refine lv_iload_n hx hb dX12_bitsOf_11 rfl (lv_at hl 0 rfl) ?_
      refine lv_iload_n hx hb dX12_bitsOf_12 rfl (lv_at hl 2 rfl) ?_
      refine lv_ishr hx hb dX12_bitsOf_13 ?_
      refine lv_iconst (v := 1) hx hb dX12_bitsOf_14 (by decide) ?_
      refine lv_iand hx hb dX12_bitsOf_15 ?_
      refine lv_iadd hx hb dX12_bitsOf_16 ?_
      obtain ⟨x2, e, hf⟩ := ob hf
      refine q_nmI e ?_
      refine lv_istore_n (lv' := [(1, .int x2), (0, .int v0), (2, .int v2)]) hx hb dX12_bitsOf_17 rfl hl (by decide) rfl (fun ls hl => ?_)
      obtain ⟨x3, e, hf⟩ := ob hf
      refine lv_iinc (v := x3) (lv' := [(2, .int x3), (1, .int x2), (0, .int v0)]) hx hb dX12_bitsOf_18 hl (k := 2) rfl (Option.some.inj e) (by decide) rfl (fun ls hl => ?_)
      refine lv_goto (tgt := 4) hx hb dX12_bitsOf_21 (by decide) ?_
      exact ih v0 x2 x3 _ _ _ hw (lv_sub hl [2, 1, 0] rfl) hf
set_option maxHeartbeats 4000000 in
theorem c_X12_bitsOf {l : Launch} {s0 : State} {E : Ev} (G : Gl s0 E) {n : Nat} {z : Sh} {h : Hp} {v0 : Int32} {r : Int32} (hf : f_X12_bitsOf n z h v0 = some r) : Ct l s0 E yX12_bitsOf cX12_bitsOf 3 (some .int) 0 0 [.int v0] z h h (some (.int r)) := by
  refine Ct.of G (by decide) (Nat.le_of_ble_eq_true rfl) ?_
  intro p e s m below meth c ls B hw hz hc0 hr hlk hl
  have B : Bd p s0 s E m c cX12_bitsOf 3 RX12 := B
  have hx := B.1
  have hb := B.2.1
  have hl : lv_has ls 3 [(0, .int v0)] := hl
  unfold f_X12_bitsOf at hf
  refine lv_iconst (v := 0) hx hb dX12_bitsOf_0 (by decide) ?_
  refine lv_istore_n (lv' := [(1, .int 0), (0, .int v0)]) hx hb dX12_bitsOf_1 rfl hl (by decide) rfl (fun ls hl => ?_)
  refine lv_iconst (v := 0) hx hb dX12_bitsOf_2 (by decide) ?_
  refine lv_istore_n (lv' := [(2, .int 0), (1, .int 0), (0, .int v0)]) hx hb dX12_bitsOf_3 rfl hl (by decide) rfl (fun ls hl => ?_)
  exact w_X12_bitsOf_4 G B hz hc0 hr hlk  n v0 0 0 _ _ _ hw (lv_sub hl [2, 1, 0] rfl) hf
/-! SecondLifeModel.between(III)I -/
def f_X12_between_116 (z : Sh) (h : Hp) (u0 : Int64) : Option (Int32) :=
  if (lg_cmp u0 1000000) ≤ 0 then
    if 0 ≤ (lg_cmp u0 (-1000000)) then
      some (Int64.toInt32 u0)
    else
      some (Int64.toInt32 (-1000000))
  else
    some (Int64.toInt32 1000000)
def f_X12_between (z : Sh) (h : Hp) (v0 : Int32) (v1 : Int32) (v2 : Int32) : Option (Int32) :=
  if v0 = 3003 then
    if v1 = v2 then
      some (1 : Int32)
    else
      some (0 : Int32)
  else
    if v0 = 3004 then
      if v2 ≤ v1 then
        some (0 : Int32)
      else
        some (1 : Int32)
    else
      if v0 = 3005 then
        if v1 ≤ v2 then
          some (0 : Int32)
        else
          some (1 : Int32)
      else
        if v0 = 3006 then
          if v0 = 3000 then
            f_X12_between_116 z h ((Int32.toInt64 v1) + (Int32.toInt64 v2))
          else
            if v0 = 3001 then
              f_X12_between_116 z h ((Int32.toInt64 v1) - (Int32.toInt64 v2))
            else
              f_X12_between_116 z h ((Int32.toInt64 v1) * (Int32.toInt64 v2))
        else
          if v0 = 3007 then
            some (v1 &&& v2)
          else
            if v0 = 3008 then
              some (v1 ||| v2)
            else
              if v0 = 3000 then
                f_X12_between_116 z h ((Int32.toInt64 v1) + (Int32.toInt64 v2))
              else
                if v0 = 3001 then
                  f_X12_between_116 z h ((Int32.toInt64 v1) - (Int32.toInt64 v2))
                else
                  f_X12_between_116 z h ((Int32.toInt64 v1) * (Int32.toInt64 v2))
set_option maxHeartbeats 4000000 in
theorem w_X12_between_116 {p : Program} {l : Launch} {e : Env} {s : State} {m : MethodId} {args : Array Value} {below : List Frame} {meth : Method} {c : Code} {s0 : State} {E : Ev} {z : Sh} {h : Hp} {r : Int32} (G : Gl s0 E) (B : Bd p s0 s E m c cX12_between 5 RX12) (hz : s0.heap.size ≤ z.sz) (hc0 : s.heap.size + 0 = z.sz) (hr : meth.sig.returnType = (some .int)) (hlk : meth.locks = false) : ∀ (u0 : Int64) (H : Heap) (locs : List Loc) (ls : Array Slot), Pw s0 s E z h H locs → lv_has ls 5 [] → f_X12_between_116 z h u0 = some r → W p l e (rmO 0 0) s m args below meth c H locs 0 0 (Zt below s0 E z h (some (.int r)) args s 0 0) (F0 m 116 ls [.long u0]) := by
  have hx := B.1
  have hb := B.2.1
  intro u0 H locs ls hw hl hf
  unfold f_X12_between_116 at hf
  refine lv_lstore_n (lv' := [(3, .long u0)]) hx hb dX12_between_116 rfl hl (by decide) rfl (fun ls hl => ?_)
  refine lv_lload_n hx hb dX12_between_117 rfl (lv_at hl 0 rfl) ?_
  refine lv_ldc2 hx hb B.2.2.2.1 (B.w tw_7_85 rfl) dX12_between_118 ?_
  refine W.lcmp hx hb dX12_between_121 ?_
  refine lv_if_le (tgt := 131) hx hb dX12_between_122 (by decide) (fun c1 => ?_) (fun c1 => ?_)
  · have hf := (if_pos c1).symm.trans hf
    refine lv_lload_n hx hb dX12_between_131 rfl (lv_at hl 0 rfl) ?_
    refine lv_ldc2 hx hb B.2.2.2.1 (B.w tw_7_86 rfl) dX12_between_132 ?_
    refine W.lcmp hx hb dX12_between_135 ?_
    refine lv_if_ge (tgt := 145) hx hb dX12_between_136 (by decide) (fun c2 => ?_) (fun c2 => ?_)
    · have hf := (if_pos c2).symm.trans hf
      refine lv_lload_n hx hb dX12_between_145 rfl (lv_at hl 0 rfl) ?_
      refine lv_l2i (v := (Int64.toInt32 u0)) hx hb dX12_between_146 rfl ?_
      obtain rfl := so hf
      exact q_iret B hw hz hc0 hr hlk dX12_between_147
    · have hf := (if_neg c2).symm.trans hf
      refine lv_ldc2 hx hb B.2.2.2.1 (B.w tw_7_86 rfl) dX12_between_139 ?_
      refine lv_goto (tgt := 146) hx hb dX12_between_142 (by decide) ?_
      refine lv_l2i (v := (Int64.toInt32 (-1000000))) hx hb dX12_between_146 rfl ?_
      obtain rfl := so hf
      exact q_iret B hw hz hc0 hr hlk dX12_between_147
  · have hf := (if_neg c1).symm.trans hf
    refine lv_ldc2 hx hb B.2.2.2.1 (B.w tw_7_85 rfl) dX12_between_125 ?_
    refine lv_goto (tgt := 146) hx hb dX12_between_128 (by decide) ?_
    refine lv_l2i (v := (Int64.toInt32 1000000)) hx hb dX12_between_146 rfl ?_
    obtain rfl := so hf
    exact q_iret B hw hz hc0 hr hlk dX12_between_147
set_option maxHeartbeats 4000000 in
theorem c_X12_between {l : Launch} {s0 : State} {E : Ev} (G : Gl s0 E) {z : Sh} {h : Hp} {v0 : Int32} {v1 : Int32} {v2 : Int32} {r : Int32} (hf : f_X12_between z h v0 v1 v2 = some r) : Ct l s0 E yX12_between cX12_between 5 (some .int) 0 0 [.int v0, .int v1, .int v2] z h h (some (.int r)) := by
  refine Ct.of G (by decide) (Nat.le_of_ble_eq_true rfl) ?_
  intro p e s m below meth c ls B hw hz hc0 hr hlk hl
  have B : Bd p s0 s E m c cX12_between 5 RX12 := B
  have hx := B.1
  have hb := B.2.1
  have hl : lv_has ls 5 [(0, .int v0), (1, .int v1), (2, .int v2)] := hl
  unfold f_X12_between at hf
  refine lv_iload_n hx hb dX12_between_0 rfl (lv_at hl 0 rfl) ?_
  by_cases c1_3003 : v0 = 3003
  · have hf := (if_pos c1_3003).symm.trans hf
    refine lv_tableIn (off := 39) (tgt := 40) hx hb dX12_between_1 (by rw [c1_3003]; decide) (by rw [c1_3003]; decide) (by rw [c1_3003]; rfl) (by decide) ?_
    refine lv_iload_n hx hb dX12_between_40 rfl (lv_at hl 1 rfl) ?_
    refine lv_iload_n hx hb dX12_between_41 rfl (lv_at hl 2 rfl) ?_
    refine lv_icmp_ne (tgt := 49) hx hb dX12_between_42 (by decide) (fun c3 => ?_) (fun c3 => ?_)
    · have hf := (if_neg c3).symm.trans hf
      refine lv_iconst (v := 0) hx hb dX12_between_49 (by decide) ?_
      obtain rfl := so hf
      exact q_iret B hw hz hc0 hr hlk dX12_between_50
    · have hf := (if_pos c3).symm.trans hf
      refine lv_iconst (v := 1) hx hb dX12_between_45 (by decide) ?_
      refine lv_goto (tgt := 50) hx hb dX12_between_46 (by decide) ?_
      obtain rfl := so hf
      exact q_iret B hw hz hc0 hr hlk dX12_between_50
  have hf := (if_neg c1_3003).symm.trans hf
  by_cases c1_3004 : v0 = 3004
  · have hf := (if_pos c1_3004).symm.trans hf
    refine lv_tableIn (off := 50) (tgt := 51) hx hb dX12_between_1 (by rw [c1_3004]; decide) (by rw [c1_3004]; decide) (by rw [c1_3004]; rfl) (by decide) ?_
    refine lv_iload_n hx hb dX12_between_51 rfl (lv_at hl 1 rfl) ?_
    refine lv_iload_n hx hb dX12_between_52 rfl (lv_at hl 2 rfl) ?_
    refine lv_icmp_ge (tgt := 60) hx hb dX12_between_53 (by decide) (fun c4 => ?_) (fun c4 => ?_)
    · have hf := (if_pos c4).symm.trans hf
      refine lv_iconst (v := 0) hx hb dX12_between_60 (by decide) ?_
      obtain rfl := so hf
      exact q_iret B hw hz hc0 hr hlk dX12_between_61
    · have hf := (if_neg c4).symm.trans hf
      refine lv_iconst (v := 1) hx hb dX12_between_56 (by decide) ?_
      refine lv_goto (tgt := 61) hx hb dX12_between_57 (by decide) ?_
      obtain rfl := so hf
      exact q_iret B hw hz hc0 hr hlk dX12_between_61
  have hf := (if_neg c1_3004).symm.trans hf
  by_cases c1_3005 : v0 = 3005
  · have hf := (if_pos c1_3005).symm.trans hf
    refine lv_tableIn (off := 61) (tgt := 62) hx hb dX12_between_1 (by rw [c1_3005]; decide) (by rw [c1_3005]; decide) (by rw [c1_3005]; rfl) (by decide) ?_
    refine lv_iload_n hx hb dX12_between_62 rfl (lv_at hl 1 rfl) ?_
    refine lv_iload_n hx hb dX12_between_63 rfl (lv_at hl 2 rfl) ?_
    refine lv_icmp_le (tgt := 71) hx hb dX12_between_64 (by decide) (fun c5 => ?_) (fun c5 => ?_)
    · have hf := (if_pos c5).symm.trans hf
      refine lv_iconst (v := 0) hx hb dX12_between_71 (by decide) ?_
      obtain rfl := so hf
      exact q_iret B hw hz hc0 hr hlk dX12_between_72
    · have hf := (if_neg c5).symm.trans hf
      refine lv_iconst (v := 1) hx hb dX12_between_67 (by decide) ?_
      refine lv_goto (tgt := 72) hx hb dX12_between_68 (by decide) ?_
      obtain rfl := so hf
      exact q_iret B hw hz hc0 hr hlk dX12_between_72
  have hf := (if_neg c1_3005).symm.trans hf
  by_cases c1_3006 : v0 = 3006
  · have hf := (if_pos c1_3006).symm.trans hf
    refine lv_tableIn (off := 80) (tgt := 81) hx hb dX12_between_1 (by rw [c1_3006]; decide) (by rw [c1_3006]; decide) (by rw [c1_3006]; rfl) (by decide) ?_
    refine lv_iload_n hx hb dX12_between_81 rfl (lv_at hl 0 rfl) ?_
    refine lv_sipush (v := 3000) hx hb dX12_between_82 (by decide) ?_
    refine lv_icmp_ne (tgt := 96) hx hb dX12_between_85 (by decide) (fun c6 => ?_) (fun c6 => ?_)
    · have hf := (if_neg c6).symm.trans hf
      refine lv_iload_n hx hb dX12_between_96 rfl (lv_at hl 0 rfl) ?_
      refine lv_sipush (v := 3001) hx hb dX12_between_97 (by decide) ?_
      refine lv_icmp_ne (tgt := 111) hx hb dX12_between_100 (by decide) (fun c7 => ?_) (fun c7 => ?_)
      · have hf := (if_neg c7).symm.trans hf
        refine lv_iload_n hx hb dX12_between_111 rfl (lv_at hl 1 rfl) ?_
        refine lv_i2l (v := (Int32.toInt64 v1)) hx hb dX12_between_112 rfl ?_
        refine lv_iload_n hx hb dX12_between_113 rfl (lv_at hl 2 rfl) ?_
        refine lv_i2l (v := (Int32.toInt64 v2)) hx hb dX12_between_114 rfl ?_
        refine lv_lmul hx hb dX12_between_115 ?_
        exact w_X12_between_116 G B hz hc0 hr hlk  ((Int32.toInt64 v1) * (Int32.toInt64 v2)) _ _ _ hw (lv_sub hl [] rfl) hf
      · have hf := (if_pos c7).symm.trans hf
        refine lv_iload_n hx hb dX12_between_103 rfl (lv_at hl 1 rfl) ?_
        refine lv_i2l (v := (Int32.toInt64 v1)) hx hb dX12_between_104 rfl ?_
        refine lv_iload_n hx hb dX12_between_105 rfl (lv_at hl 2 rfl) ?_
        refine lv_i2l (v := (Int32.toInt64 v2)) hx hb dX12_between_106 rfl ?_
        refine lv_lsub hx hb dX12_between_107 ?_
        refine lv_goto (tgt := 116) hx hb dX12_between_108 (by decide) ?_
        exact w_X12_between_116 G B hz hc0 hr hlk  ((Int32.toInt64 v1) - (Int32.toInt64 v2)) _ _ _ hw (lv_sub hl [] rfl) hf
    · have hf := (if_pos c6).symm.trans hf
      refine lv_iload_n hx hb dX12_between_88 rfl (lv_at hl 1 rfl) ?_
      refine lv_i2l (v := (Int32.toInt64 v1)) hx hb dX12_between_89 rfl ?_
      refine lv_iload_n hx hb dX12_between_90 rfl (lv_at hl 2 rfl) ?_
      refine lv_i2l (v := (Int32.toInt64 v2)) hx hb dX12_between_91 rfl ?_
      refine lv_ladd hx hb dX12_between_92 ?_
      refine lv_goto (tgt := 116) hx hb dX12_between_93 (by decide) ?_
      exact w_X12_between_116 G B hz hc0 hr hlk  ((Int32.toInt64 v1) + (Int32.toInt64 v2)) _ _ _ hw (lv_sub hl [] rfl) hf
  have hf := (if_neg c1_3006).symm.trans hf
  by_cases c1_3007 : v0 = 3007
  · have hf := (if_pos c1_3007).symm.trans hf
    refine lv_tableIn (off := 72) (tgt := 73) hx hb dX12_between_1 (by rw [c1_3007]; decide) (by rw [c1_3007]; decide) (by rw [c1_3007]; rfl) (by decide) ?_
    refine lv_iload_n hx hb dX12_between_73 rfl (lv_at hl 1 rfl) ?_
    refine lv_iload_n hx hb dX12_between_74 rfl (lv_at hl 2 rfl) ?_
    refine lv_iand hx hb dX12_between_75 ?_
    obtain rfl := so hf
    exact q_iret B hw hz hc0 hr hlk dX12_between_76
  have hf := (if_neg c1_3007).symm.trans hf
  by_cases c1_3008 : v0 = 3008
  · have hf := (if_pos c1_3008).symm.trans hf
    refine lv_tableIn (off := 76) (tgt := 77) hx hb dX12_between_1 (by rw [c1_3008]; decide) (by rw [c1_3008]; decide) (by rw [c1_3008]; rfl) (by decide) ?_
    refine lv_iload_n hx hb dX12_between_77 rfl (lv_at hl 1 rfl) ?_
    refine lv_iload_n hx hb dX12_between_78 rfl (lv_at hl 2 rfl) ?_
    refine lv_ior hx hb dX12_between_79 ?_
    obtain rfl := so hf
    exact q_iret B hw hz hc0 hr hlk dX12_between_80
  have hf := (if_neg c1_3008).symm.trans hf
  refine lv_tableOut (tgt := 81) hx hb dX12_between_1 (sw_out (fun k h1 h2 => ?_)) (by decide) ?_
  · rcases (show k = (3003) ∨ k = (3004) ∨ k = (3005) ∨ k = (3006) ∨ k = (3007) ∨ k = (3008) by omega) with rfl | rfl | rfl | rfl | rfl | rfl
    · exact fun q => c1_3003 (Int32.toInt_inj.mp q)
    · exact fun q => c1_3004 (Int32.toInt_inj.mp q)
    · exact fun q => c1_3005 (Int32.toInt_inj.mp q)
    · exact fun q => c1_3006 (Int32.toInt_inj.mp q)
    · exact fun q => c1_3007 (Int32.toInt_inj.mp q)
    · exact fun q => c1_3008 (Int32.toInt_inj.mp q)
  refine lv_iload_n hx hb dX12_between_81 rfl (lv_at hl 0 rfl) ?_
  refine lv_sipush (v := 3000) hx hb dX12_between_82 (by decide) ?_
  refine lv_icmp_ne (tgt := 96) hx hb dX12_between_85 (by decide) (fun c1 => ?_) (fun c1 => ?_)
  · have hf := (if_neg c1).symm.trans hf
    refine lv_iload_n hx hb dX12_between_96 rfl (lv_at hl 0 rfl) ?_
    refine lv_sipush (v := 3001) hx hb dX12_between_97 (by decide) ?_
    refine lv_icmp_ne (tgt := 111) hx hb dX12_between_100 (by decide) (fun c2 => ?_) (fun c2 => ?_)
    · have hf := (if_neg c2).symm.trans hf
      refine lv_iload_n hx hb dX12_between_111 rfl (lv_at hl 1 rfl) ?_
      refine lv_i2l (v := (Int32.toInt64 v1)) hx hb dX12_between_112 rfl ?_
      refine lv_iload_n hx hb dX12_between_113 rfl (lv_at hl 2 rfl) ?_
      refine lv_i2l (v := (Int32.toInt64 v2)) hx hb dX12_between_114 rfl ?_
      refine lv_lmul hx hb dX12_between_115 ?_
      exact w_X12_between_116 G B hz hc0 hr hlk  ((Int32.toInt64 v1) * (Int32.toInt64 v2)) _ _ _ hw (lv_sub hl [] rfl) hf
    · have hf := (if_pos c2).symm.trans hf
      refine lv_iload_n hx hb dX12_between_103 rfl (lv_at hl 1 rfl) ?_
      refine lv_i2l (v := (Int32.toInt64 v1)) hx hb dX12_between_104 rfl ?_
      refine lv_iload_n hx hb dX12_between_105 rfl (lv_at hl 2 rfl) ?_
      refine lv_i2l (v := (Int32.toInt64 v2)) hx hb dX12_between_106 rfl ?_
      refine lv_lsub hx hb dX12_between_107 ?_
      refine lv_goto (tgt := 116) hx hb dX12_between_108 (by decide) ?_
      exact w_X12_between_116 G B hz hc0 hr hlk  ((Int32.toInt64 v1) - (Int32.toInt64 v2)) _ _ _ hw (lv_sub hl [] rfl) hf
  · have hf := (if_pos c1).symm.trans hf
    refine lv_iload_n hx hb dX12_between_88 rfl (lv_at hl 1 rfl) ?_
    refine lv_i2l (v := (Int32.toInt64 v1)) hx hb dX12_between_89 rfl ?_
    refine lv_iload_n hx hb dX12_between_90 rfl (lv_at hl 2 rfl) ?_
    refine lv_i2l (v := (Int32.toInt64 v2)) hx hb dX12_between_91 rfl ?_
    refine lv_ladd hx hb dX12_between_92 ?_
    refine lv_goto (tgt := 116) hx hb dX12_between_93 (by decide) ?_
    exact w_X12_between_116 G B hz hc0 hr hlk  ((Int32.toInt64 v1) + (Int32.toInt64 v2)) _ _ _ hw (lv_sub hl [] rfl) hf
/-! SecondLifeModel.reckons(I)I -/
def f_X12_reckons_193 (n : Nat) (z : Sh) (k4 : Hp → Nat → Int32 → Int32 → Int32 → Option (Int32 × Hp)) (h : Hp) (v0 : Nat) (v1 : Int32) (v2 : Int32) (v3 : Int32) : Option (Int32 × Hp) :=
  (some (v3 + 1)).bind fun x1 =>
  k4 h v0 v1 v2 x1
def f_X12_reckons_159 (n : Nat) (z : Sh) (k4 : Hp → Nat → Int32 → Int32 → Int32 → Option (Int32 × Hp)) (h : Hp) (v0 : Nat) (v1 : Int32) (v2 : Int32) (v3 : Int32) (u0 : Int32) (u1 : Int32) (u2 : Nat) : Option (Int32 × Hp) :=
  (stI z h u2 u1 u0).bind fun h1 =>
  f_X12_reckons_193 n z k4 h1 v0 v1 v2 v3
def f_X12_reckons_76 (n : Nat) (z : Sh) (k4 : Hp → Nat → Int32 → Int32 → Int32 → Option (Int32 × Hp)) (h : Hp) (v0 : Nat) (v1 : Int32) (v2 : Int32) (v3 : Int32) (u0 : Int32) (u1 : Int32) (u2 : Nat) : Option (Int32 × Hp) :=
  (stI z h u2 u1 u0).bind fun h1 =>
  (some (v2 + 1)).bind fun x2 =>
  f_X12_reckons_193 n z k4 h1 v0 v1 x2 v3
def f_X12_reckons_4 (n : Nat) (z : Sh) : Nat → Hp → Nat → Int32 → Int32 → Int32 → Option (Int32 × Hp)
  | 0, _, _, _, _, _ => none
  | i + 1, h, v0, v1, v2, v3 =>
    (gR z h 12 v0 1).bind fun a1 =>
    (ldI z h a1 (9 + v1)).bind fun x2 =>
    if x2 ≤ v3 then
      (gR z h 12 v0 16).bind fun a4 =>
      (ldI z h a4 0).bind fun x5 =>
      some (x5, h)
    else
      (gR z h 12 v0 1).bind fun a6 =>
      (gR z h 12 v0 1).bind fun a7 =>
      (ldI z h a7 (7 + v1)).bind fun x8 =>
      (ldI z h a6 ((558 + x8) + v3)).bind fun x9 =>
      if 3000 ≤ x9 then
        if x9 = 3006 then
          (gR z h 12 v0 16).bind fun a30 =>
          (gR z h 12 v0 16).bind fun a31 =>
          (ldI z h a31 (v2 - 1)).bind fun x32 =>
          (stI z h a30 (v2 - 1) (1 - x32)).bind fun h33 =>
          f_X12_reckons_193 n z (f_X12_reckons_4 n z i) h33 v0 v1 v2 v3
        else
          if x9 = 3009 then
            (some (v2 + (-2))).bind fun x21 =>
            (gR z h 12 v0 16).bind fun a22 =>
            (gR z h 12 v0 16).bind fun a23 =>
            (ldI z h a23 (x21 - 1)).bind fun x24 =>
            if x24 = 1 then
              (gR z h 12 v0 16).bind fun a28 =>
              (ldI z h a28 x21).bind fun x29 =>
              f_X12_reckons_159 n z (f_X12_reckons_4 n z i) h v0 v1 x21 v3 x29 (x21 - 1) a22
            else
              (gR z h 12 v0 16).bind fun a26 =>
              (ldI z h a26 (x21 + 1)).bind fun x27 =>
              f_X12_reckons_159 n z (f_X12_reckons_4 n z i) h v0 v1 x21 v3 x27 (x21 - 1) a22
          else
            (some (v2 + (-1))).bind fun x13 =>
            (gR z h 12 v0 16).bind fun a14 =>
            (gR z h 12 v0 16).bind fun a15 =>
            (ldI z h a15 (x13 - 1)).bind fun x16 =>
            (gR z h 12 v0 16).bind fun a17 =>
            (ldI z h a17 x13).bind fun x18 =>
            (f_X12_between z h x9 x16 x18).bind fun x19 =>
            (stI z h a14 (x13 - 1) x19).bind fun h20 =>
            f_X12_reckons_193 n z (f_X12_reckons_4 n z i) h20 v0 v1 x13 v3
      else
        (gR z h 12 v0 16).bind fun a34 =>
        if 1000 ≤ x9 then
          (gR z h 12 v0 17).bind fun a36 =>
          (ldI z h a36 (x9 - 1000)).bind fun x37 =>
          f_X12_reckons_76 n z (f_X12_reckons_4 n z i) h v0 v1 v2 v3 x37 v2 a34
        else
          f_X12_reckons_76 n z (f_X12_reckons_4 n z i) h v0 v1 v2 v3 x9 v2 a34
def f_X12_reckons (n : Nat) (z : Sh) (h : Hp) (v0 : Nat) (v1 : Int32) : Option (Int32 × Hp) :=
  if z.K v0 = 12 then
    f_X12_reckons_4 n z n h v0 v1 0 0
  else none
theorem k_X12_reckons {n : Nat} {z : Sh} {h : Hp} {v0 : Nat} {v1 : Int32} {w : Int32 × Hp} (hf : f_X12_reckons n z h v0 v1 = some w) : z.K v0 = 12 := by
  unfold f_X12_reckons at hf
  exact (if_some hf).1
set_option maxHeartbeats 4000000 in
theorem w_X12_reckons_193 {p : Program} {l : Launch} {e : Env} {s : State} {m : MethodId} {args : Array Value} {below : List Frame} {meth : Method} {c : Code} {s0 : State} {E : Ev} {z : Sh} {n : Nat} {k4 : Hp → Nat → Int32 → Int32 → Int32 → Option (Int32 × Hp)} {r : Int32} {h' : Hp} (G : Gl s0 E) (B : Bd p s0 s E m c cX12_reckons 5 RX12) (hz : s0.heap.size ≤ z.sz) (hc0 : s.heap.size + 0 = z.sz) (hr : meth.sig.returnType = (some .int)) (hlk : meth.locks = false) (hk4 : ∀ (h : Hp) (v0 : Nat) (v1 : Int32) (v2 : Int32) (v3 : Int32) (H : Heap) (locs : List Loc) (ls : Array Slot), Pw s0 s E z h H locs → lv_has ls 5 [(0, .ref v0), (1, .int v1), (2, .int v2), (3, .int v3)] → k4 h v0 v1 v2 v3 = some (r, h') → W p l e (rmO 1 24) s m args below meth c H locs 0 0 (Zt below s0 E z h' (some (.int r)) args s 0 0) (F0 m 4 ls [])) : ∀ (h : Hp) (v0 : Nat) (v1 : Int32) (v2 : Int32) (v3 : Int32) (H : Heap) (locs : List Loc) (ls : Array Slot), Pw s0 s E z h H locs → lv_has ls 5 [(0, .ref v0), (1, .int v1), (2, .int v2), (3, .int v3)] → f_X12_reckons_193 n z k4 h v0 v1 v2 v3 = some (r, h') → W p l e (rmO 1 24) s m args below meth c H locs 0 0 (Zt below s0 E z h' (some (.int r)) args s 0 0) (F0 m 193 ls []) := by
  have hx := B.1
  have hb := B.2.1
  intro h v0 v1 v2 v3 H locs ls hw hl hf
  unfold f_X12_reckons_193 at hf
  obtain ⟨x1, e, hf⟩ := ob hf
  refine lv_iinc (v := x1) (lv' := [(3, .int x1), (0, .ref v0), (1, .int v1), (2, .int v2)]) hx hb dX12_reckons_193 hl (k := 3) rfl (Option.some.inj e) (by decide) rfl (fun ls hl => ?_)
  refine lv_goto (tgt := 4) hx hb dX12_reckons_196 (by decide) ?_
  exact hk4 h v0 v1 v2 x1 _ _ _ hw (lv_sub hl [1, 2, 3, 0] rfl) hf
set_option maxHeartbeats 4000000 in
theorem w_X12_reckons_159 {p : Program} {l : Launch} {e : Env} {s : State} {m : MethodId} {args : Array Value} {below : List Frame} {meth : Method} {c : Code} {s0 : State} {E : Ev} {z : Sh} {n : Nat} {k4 : Hp → Nat → Int32 → Int32 → Int32 → Option (Int32 × Hp)} {r : Int32} {h' : Hp} (G : Gl s0 E) (B : Bd p s0 s E m c cX12_reckons 5 RX12) (hz : s0.heap.size ≤ z.sz) (hc0 : s.heap.size + 0 = z.sz) (hr : meth.sig.returnType = (some .int)) (hlk : meth.locks = false) (hk4 : ∀ (h : Hp) (v0 : Nat) (v1 : Int32) (v2 : Int32) (v3 : Int32) (H : Heap) (locs : List Loc) (ls : Array Slot), Pw s0 s E z h H locs → lv_has ls 5 [(0, .ref v0), (1, .int v1), (2, .int v2), (3, .int v3)] → k4 h v0 v1 v2 v3 = some (r, h') → W p l e (rmO 1 24) s m args below meth c H locs 0 0 (Zt below s0 E z h' (some (.int r)) args s 0 0) (F0 m 4 ls [])) : ∀ (h : Hp) (v0 : Nat) (v1 : Int32) (v2 : Int32) (v3 : Int32) (u0 : Int32) (u1 : Int32) (u2 : Nat) (H : Heap) (locs : List Loc) (ls : Array Slot), Pw s0 s E z h H locs → lv_has ls 5 [(0, .ref v0), (1, .int v1), (2, .int v2), (3, .int v3)] → f_X12_reckons_159 n z k4 h v0 v1 v2 v3 u0 u1 u2 = some (r, h') → W p l e (rmO 1 24) s m args below meth c H locs 0 0 (Zt below s0 E z h' (some (.int r)) args s 0 0) (F0 m 159 ls [.int u0, .int u1, .ref u2]) := by
  have hx := B.1
  have hb := B.2.1
  intro h v0 v1 v2 v3 u0 u1 u2 H locs ls hw hl hf
  unfold f_X12_reckons_159 at hf
  obtain ⟨h1, e, hf⟩ := ob hf
  refine q_stI e B hw dX12_reckons_159 (fun H locs hw => ?_)
  refine lv_goto (tgt := 193) hx hb dX12_reckons_160 (by decide) ?_
  exact w_X12_reckons_193 G B hz hc0 hr hlk hk4 h1 v0 v1 v2 v3 _ _ _ hw (lv_sub hl [0, 1, 2, 3] rfl) hf
set_option maxHeartbeats 4000000 in
theorem w_X12_reckons_76 {p : Program} {l : Launch} {e : Env} {s : State} {m : MethodId} {args : Array Value} {below : List Frame} {meth : Method} {c : Code} {s0 : State} {E : Ev} {z : Sh} {n : Nat} {k4 : Hp → Nat → Int32 → Int32 → Int32 → Option (Int32 × Hp)} {r : Int32} {h' : Hp} (G : Gl s0 E) (B : Bd p s0 s E m c cX12_reckons 5 RX12) (hz : s0.heap.size ≤ z.sz) (hc0 : s.heap.size + 0 = z.sz) (hr : meth.sig.returnType = (some .int)) (hlk : meth.locks = false) (hk4 : ∀ (h : Hp) (v0 : Nat) (v1 : Int32) (v2 : Int32) (v3 : Int32) (H : Heap) (locs : List Loc) (ls : Array Slot), Pw s0 s E z h H locs → lv_has ls 5 [(0, .ref v0), (1, .int v1), (2, .int v2), (3, .int v3)] → k4 h v0 v1 v2 v3 = some (r, h') → W p l e (rmO 1 24) s m args below meth c H locs 0 0 (Zt below s0 E z h' (some (.int r)) args s 0 0) (F0 m 4 ls [])) : ∀ (h : Hp) (v0 : Nat) (v1 : Int32) (v2 : Int32) (v3 : Int32) (u0 : Int32) (u1 : Int32) (u2 : Nat) (H : Heap) (locs : List Loc) (ls : Array Slot), Pw s0 s E z h H locs → lv_has ls 5 [(0, .ref v0), (1, .int v1), (2, .int v2), (3, .int v3)] → f_X12_reckons_76 n z k4 h v0 v1 v2 v3 u0 u1 u2 = some (r, h') → W p l e (rmO 1 24) s m args below meth c H locs 0 0 (Zt below s0 E z h' (some (.int r)) args s 0 0) (F0 m 76 ls [.int u0, .int u1, .ref u2]) := by
  have hx := B.1
  have hb := B.2.1
  intro h v0 v1 v2 v3 u0 u1 u2 H locs ls hw hl hf
  unfold f_X12_reckons_76 at hf
  obtain ⟨h1, e, hf⟩ := ob hf
  refine q_stI e B hw dX12_reckons_76 (fun H locs hw => ?_)
  obtain ⟨x2, e, hf⟩ := ob hf
  refine lv_iinc (v := x2) (lv' := [(2, .int x2), (0, .ref v0), (1, .int v1), (3, .int v3)]) hx hb dX12_reckons_77 hl (k := 2) rfl (Option.some.inj e) (by decide) rfl (fun ls hl => ?_)
  refine lv_goto (tgt := 193) hx hb dX12_reckons_80 (by decide) ?_
  exact w_X12_reckons_193 G B hz hc0 hr hlk hk4 h1 v0 v1 x2 v3 _ _ _ hw (lv_sub hl [1, 2, 0, 3] rfl) hf
set_option maxHeartbeats 4000000 in
theorem w_X12_reckons_4 {p : Program} {l : Launch} {e : Env} {s : State} {m : MethodId} {args : Array Value} {below : List Frame} {meth : Method} {c : Code} {s0 : State} {E : Ev} {z : Sh} {n : Nat} {r : Int32} {h' : Hp} (G : Gl s0 E) (B : Bd p s0 s E m c cX12_reckons 5 RX12) (hz : s0.heap.size ≤ z.sz) (hc0 : s.heap.size + 0 = z.sz) (hr : meth.sig.returnType = (some .int)) (hlk : meth.locks = false) : ∀ (i : Nat), ∀ (h : Hp) (v0 : Nat) (v1 : Int32) (v2 : Int32) (v3 : Int32) (H : Heap) (locs : List Loc) (ls : Array Slot), Pw s0 s E z h H locs → lv_has ls 5 [(0, .ref v0), (1, .int v1), (2, .int v2), (3, .int v3)] → f_X12_reckons_4 n z i h v0 v1 v2 v3 = some (r, h') → W p l e (rmO 1 24) s m args below meth c H locs 0 0 (Zt below s0 E z h' (some (.int r)) args s 0 0) (F0 m 4 ls []) := by
  have hx := B.1
  have hb := B.2.1
  intro i
  induction i with
  | zero =>
    intro h v0 v1 v2 v3 H locs ls hw hl hf
    have hf := (f_X12_reckons_4.eq_1 ..).symm.trans hf
    cases hf
  | succ i ih =>
    intro h v0 v1 v2 v3 H locs ls hw hl hf
    have hf := (f_X12_reckons_4.eq_2 ..).symm.trans hf
    refine lv_iload_n hx hb dX12_reckons_4 rfl (lv_at hl 3 rfl) ?_
    refine lv_aload_n hx hb dX12_reckons_5 rfl (lv_at hl 0 rfl) ?_
    obtain ⟨a1, e, hf⟩ := ob hf
    refine q_getR e B hw fd_12_1.1 fd_12_1.2.1 fd_12_1.2.2.1 fd_12_1.2.2.2.1 fd_12_1.2.2.2.2 rfl tw_6_44 dX12_reckons_6 ?_
    refine lv_bipush (v := 9) hx hb dX12_reckons_9 (by decide) ?_
    refine lv_iload_n hx hb dX12_reckons_11 rfl (lv_at hl 1 rfl) ?_
    refine lv_iadd hx hb dX12_reckons_12 ?_
    obtain ⟨x2, e, hf⟩ := ob hf
    refine q_ldI e B hw dX12_reckons_13 ?_
    refine lv_icmp_ge (tgt := 199) hx hb dX12_reckons_14 (by decide) (fun c3 => ?_) (fun c3 => ?_)
    · have hf := (if_pos c3).symm.trans hf
      refine lv_aload_n hx hb dX12_reckons_199 rfl (lv_at hl 0 rfl) ?_
      obtain ⟨a4, e, hf⟩ := ob hf
      refine q_getR e B hw fd_12_16.1 fd_12_16.2.1 fd_12_16.2.2.1 fd_12_16.2.2.2.1 fd_12_16.2.2.2.2 rfl tw_6_59 dX12_reckons_200 ?_
      refine lv_iconst (v := 0) hx hb dX12_reckons_203 (by decide) ?_
      obtain ⟨x5, e, hf⟩ := ob hf
      refine q_ldI e B hw dX12_reckons_204 ?_
      obtain ⟨rfl, rfl⟩ := so2 hf
      exact q_iret B hw hz hc0 hr hlk dX12_reckons_205
    · have hf := (if_neg c3).symm.trans hf
      refine lv_aload_n hx hb dX12_reckons_17 rfl (lv_at hl 0 rfl) ?_
      obtain ⟨a6, e, hf⟩ := ob hf
      refine q_getR e B hw fd_12_1.1 fd_12_1.2.1 fd_12_1.2.2.1 fd_12_1.2.2.2.1 fd_12_1.2.2.2.2 rfl tw_6_44 dX12_reckons_18 ?_
      refine lv_sipush (v := 558) hx hb dX12_reckons_21 (by decide) ?_
      refine lv_aload_n hx hb dX12_reckons_24 rfl (lv_at hl 0 rfl) ?_
      obtain ⟨a7, e, hf⟩ := ob hf
      refine q_getR e B hw fd_12_1.1 fd_12_1.2.1 fd_12_1.2.2.1 fd_12_1.2.2.2.1 fd_12_1.2.2.2.2 rfl tw_6_44 dX12_reckons_25 ?_
      refine lv_bipush (v := 7) hx hb dX12_reckons_28 (by decide) ?_
      refine lv_iload_n hx hb dX12_reckons_30 rfl (lv_at hl 1 rfl) ?_
      refine lv_iadd hx hb dX12_reckons_31 ?_
      obtain ⟨x8, e, hf⟩ := ob hf
      refine q_ldI e B hw dX12_reckons_32 ?_
      refine lv_iadd hx hb dX12_reckons_33 ?_
      refine lv_iload_n hx hb dX12_reckons_34 rfl (lv_at hl 3 rfl) ?_
      refine lv_iadd hx hb dX12_reckons_35 ?_
      obtain ⟨x9, e, hf⟩ := ob hf
      refine q_ldI e B hw dX12_reckons_36 ?_
      refine lv_istore (lv' := [(4, .int x9), (0, .ref v0), (1, .int v1), (2, .int v2), (3, .int v3)]) hx hb dX12_reckons_37 hl (by decide) rfl (fun ls hl => ?_)
      refine lv_iload hx hb dX12_reckons_39 (lv_at hl 0 rfl) ?_
      refine lv_sipush (v := 3000) hx hb dX12_reckons_41 (by decide) ?_
      refine lv_icmp_ge (tgt := 83) hx hb dX12_reckons_44 (by decide) (fun c10 => ?_) (fun c10 => ?_)
      · have hf := (if_pos c10).symm.trans hf
        refine lv_iload hx hb dX12_reckons_83 (lv_at hl 0 rfl) ?_
        refine lv_sipush (v := 3006) hx hb dX12_reckons_85 (by decide) ?_
        refine lv_icmp_ne (tgt := 112) hx hb dX12_reckons_88 (by decide) (fun c11 => ?_) (fun c11 => ?_)
        · have hf := (if_neg c11).symm.trans hf
          refine lv_iload hx hb dX12_reckons_112 (lv_at hl 0 rfl) ?_
          refine lv_sipush (v := 3009) hx hb dX12_reckons_114 (by decide) ?_
          refine lv_icmp_ne (tgt := 163) hx hb dX12_reckons_117 (by decide) (fun c12 => ?_) (fun c12 => ?_)
          · have hf := (if_neg c12).symm.trans hf
            obtain ⟨x13, e, hf⟩ := ob hf
            refine lv_iinc (v := x13) (lv' := [(2, .int x13), (4, .int x9), (0, .ref v0), (1, .int v1), (3, .int v3)]) hx hb dX12_reckons_163 hl (k := 3) rfl (Option.some.inj e) (by decide) rfl (fun ls hl => ?_)
            refine lv_aload_n hx hb dX12_reckons_166 rfl (lv_at hl 2 rfl) ?_
            obtain ⟨a14, e, hf⟩ := ob hf
            refine q_getR e B hw fd_12_16.1 fd_12_16.2.1 fd_12_16.2.2.1 fd_12_16.2.2.2.1 fd_12_16.2.2.2.2 rfl tw_6_59 dX12_reckons_167 ?_
            refine lv_iload_n hx hb dX12_reckons_170 rfl (lv_at hl 0 rfl) ?_
            refine lv_iconst (v := 1) hx hb dX12_reckons_171 (by decide) ?_
            refine lv_isub hx hb dX12_reckons_172 ?_
            refine lv_iload hx hb dX12_reckons_173 (lv_at hl 1 rfl) ?_
            refine lv_aload_n hx hb dX12_reckons_175 rfl (lv_at hl 2 rfl) ?_
            obtain ⟨a15, e, hf⟩ := ob hf
            refine q_getR e B hw fd_12_16.1 fd_12_16.2.1 fd_12_16.2.2.1 fd_12_16.2.2.2.1 fd_12_16.2.2.2.2 rfl tw_6_59 dX12_reckons_176 ?_
            refine lv_iload_n hx hb dX12_reckons_179 rfl (lv_at hl 0 rfl) ?_
            refine lv_iconst (v := 1) hx hb dX12_reckons_180 (by decide) ?_
            refine lv_isub hx hb dX12_reckons_181 ?_
            obtain ⟨x16, e, hf⟩ := ob hf
            refine q_ldI e B hw dX12_reckons_182 ?_
            refine lv_aload_n hx hb dX12_reckons_183 rfl (lv_at hl 2 rfl) ?_
            obtain ⟨a17, e, hf⟩ := ob hf
            refine q_getR e B hw fd_12_16.1 fd_12_16.2.1 fd_12_16.2.2.1 fd_12_16.2.2.2.1 fd_12_16.2.2.2.2 rfl tw_6_59 dX12_reckons_184 ?_
            refine lv_iload_n hx hb dX12_reckons_187 rfl (lv_at hl 0 rfl) ?_
            obtain ⟨x18, e, hf⟩ := ob hf
            refine q_ldI e B hw dX12_reckons_188 ?_
            obtain ⟨x19, e, hf⟩ := ob hf
            refine q_callS (As := [.int x9, .int x16, .int x18]) (rest := [.int (x13 - 1), .ref a14]) (st1 := [.int x19, .int (x13 - 1), .ref a14]) (c_X12_between G e) B hw hz hc0 my_X12_between mv_X12_between tw_7_82 ⟨Nat.le_of_ble_eq_true rfl, Nat.le_of_ble_eq_true rfl⟩ ⟨Nat.zero_le _, Nat.zero_le _⟩ rfl hl.1 rfl rfl (Nat.le_of_ble_eq_true rfl) dX12_reckons_189 (fun H locs hw => ?_)
            obtain ⟨h20, e, hf⟩ := ob hf
            refine q_stI e B hw dX12_reckons_192 (fun H locs hw => ?_)
            exact w_X12_reckons_193 G B hz hc0 hr hlk ih h20 v0 v1 x13 v3 _ _ _ hw (lv_sub hl [2, 3, 0, 4] rfl) hf
          · have hf := (if_pos c12).symm.trans hf
            obtain ⟨x21, e, hf⟩ := ob hf
            refine lv_iinc (v := x21) (lv' := [(2, .int x21), (4, .int x9), (0, .ref v0), (1, .int v1), (3, .int v3)]) hx hb dX12_reckons_120 hl (k := 3) rfl (Option.some.inj e) (by decide) rfl (fun ls hl => ?_)
            refine lv_aload_n hx hb dX12_reckons_123 rfl (lv_at hl 2 rfl) ?_
            obtain ⟨a22, e, hf⟩ := ob hf
            refine q_getR e B hw fd_12_16.1 fd_12_16.2.1 fd_12_16.2.2.1 fd_12_16.2.2.2.1 fd_12_16.2.2.2.2 rfl tw_6_59 dX12_reckons_124 ?_
            refine lv_iload_n hx hb dX12_reckons_127 rfl (lv_at hl 0 rfl) ?_
            refine lv_iconst (v := 1) hx hb dX12_reckons_128 (by decide) ?_
            refine lv_isub hx hb dX12_reckons_129 ?_
            refine lv_aload_n hx hb dX12_reckons_130 rfl (lv_at hl 2 rfl) ?_
            obtain ⟨a23, e, hf⟩ := ob hf
            refine q_getR e B hw fd_12_16.1 fd_12_16.2.1 fd_12_16.2.2.1 fd_12_16.2.2.2.1 fd_12_16.2.2.2.2 rfl tw_6_59 dX12_reckons_131 ?_
            refine lv_iload_n hx hb dX12_reckons_134 rfl (lv_at hl 0 rfl) ?_
            refine lv_iconst (v := 1) hx hb dX12_reckons_135 (by decide) ?_
            refine lv_isub hx hb dX12_reckons_136 ?_
            obtain ⟨x24, e, hf⟩ := ob hf
            refine q_ldI e B hw dX12_reckons_137 ?_
            refine lv_iconst (v := 1) hx hb dX12_reckons_138 (by decide) ?_
            refine lv_icmp_ne (tgt := 151) hx hb dX12_reckons_139 (by decide) (fun c25 => ?_) (fun c25 => ?_)
            · have hf := (if_neg c25).symm.trans hf
              refine lv_aload_n hx hb dX12_reckons_151 rfl (lv_at hl 2 rfl) ?_
              obtain ⟨a26, e, hf⟩ := ob hf
              refine q_getR e B hw fd_12_16.1 fd_12_16.2.1 fd_12_16.2.2.1 fd_12_16.2.2.2.1 fd_12_16.2.2.2.2 rfl tw_6_59 dX12_reckons_152 ?_
              refine lv_iload_n hx hb dX12_reckons_155 rfl (lv_at hl 0 rfl) ?_
              refine lv_iconst (v := 1) hx hb dX12_reckons_156 (by decide) ?_
              refine lv_iadd hx hb dX12_reckons_157 ?_
              obtain ⟨x27, e, hf⟩ := ob hf
              refine q_ldI e B hw dX12_reckons_158 ?_
              exact w_X12_reckons_159 G B hz hc0 hr hlk ih h v0 v1 x21 v3 x27 (x21 - 1) a22 _ _ _ hw (lv_sub hl [2, 3, 0, 4] rfl) hf
            · have hf := (if_pos c25).symm.trans hf
              refine lv_aload_n hx hb dX12_reckons_142 rfl (lv_at hl 2 rfl) ?_
              obtain ⟨a28, e, hf⟩ := ob hf
              refine q_getR e B hw fd_12_16.1 fd_12_16.2.1 fd_12_16.2.2.1 fd_12_16.2.2.2.1 fd_12_16.2.2.2.2 rfl tw_6_59 dX12_reckons_143 ?_
              refine lv_iload_n hx hb dX12_reckons_146 rfl (lv_at hl 0 rfl) ?_
              obtain ⟨x29, e, hf⟩ := ob hf
              refine q_ldI e B hw dX12_reckons_147 ?_
              refine lv_goto (tgt := 159) hx hb dX12_reckons_148 (by decide) ?_
              exact w_X12_reckons_159 G B hz hc0 hr hlk ih h v0 v1 x21 v3 x29 (x21 - 1) a22 _ _ _ hw (lv_sub hl [2, 3, 0, 4] rfl) hf
        · have hf := (if_pos c11).symm.trans hf
          refine lv_aload_n hx hb dX12_reckons_91 rfl (lv_at hl 1 rfl) ?_
          obtain ⟨a30, e, hf⟩ := ob hf
          refine q_getR e B hw fd_12_16.1 fd_12_16.2.1 fd_12_16.2.2.1 fd_12_16.2.2.2.1 fd_12_16.2.2.2.2 rfl tw_6_59 dX12_reckons_92 ?_
          refine lv_iload_n hx hb dX12_reckons_95 rfl (lv_at hl 3 rfl) ?_
          refine lv_iconst (v := 1) hx hb dX12_reckons_96 (by decide) ?_
          refine lv_isub hx hb dX12_reckons_97 ?_
          refine lv_iconst (v := 1) hx hb dX12_reckons_98 (by decide) ?_
          refine lv_aload_n hx hb dX12_reckons_99 rfl (lv_at hl 1 rfl) ?_
          obtain ⟨a31, e, hf⟩ := ob hf
          refine q_getR e B hw fd_12_16.1 fd_12_16.2.1 fd_12_16.2.2.1 fd_12_16.2.2.2.1 fd_12_16.2.2.2.2 rfl tw_6_59 dX12_reckons_100 ?_
          refine lv_iload_n hx hb dX12_reckons_103 rfl (lv_at hl 3 rfl) ?_
          refine lv_iconst (v := 1) hx hb dX12_reckons_104 (by decide) ?_
          refine lv_isub hx hb dX12_reckons_105 ?_
          obtain ⟨x32, e, hf⟩ := ob hf
          refine q_ldI e B hw dX12_reckons_106 ?_
          refine lv_isub hx hb dX12_reckons_107 ?_
          obtain ⟨h33, e, hf⟩ := ob hf
          refine q_stI e B hw dX12_reckons_108 (fun H locs hw => ?_)
          refine lv_goto (tgt := 193) hx hb dX12_reckons_109 (by decide) ?_
          exact w_X12_reckons_193 G B hz hc0 hr hlk ih h33 v0 v1 v2 v3 _ _ _ hw (lv_sub hl [1, 2, 3, 4] rfl) hf
      · have hf := (if_neg c10).symm.trans hf
        refine lv_aload_n hx hb dX12_reckons_47 rfl (lv_at hl 1 rfl) ?_
        obtain ⟨a34, e, hf⟩ := ob hf
        refine q_getR e B hw fd_12_16.1 fd_12_16.2.1 fd_12_16.2.2.1 fd_12_16.2.2.2.1 fd_12_16.2.2.2.2 rfl tw_6_59 dX12_reckons_48 ?_
        refine lv_iload_n hx hb dX12_reckons_51 rfl (lv_at hl 3 rfl) ?_
        refine lv_iload hx hb dX12_reckons_52 (lv_at hl 0 rfl) ?_
        refine lv_sipush (v := 1000) hx hb dX12_reckons_54 (by decide) ?_
        refine lv_icmp_ge (tgt := 65) hx hb dX12_reckons_57 (by decide) (fun c35 => ?_) (fun c35 => ?_)
        · have hf := (if_pos c35).symm.trans hf
          refine lv_aload_n hx hb dX12_reckons_65 rfl (lv_at hl 1 rfl) ?_
          obtain ⟨a36, e, hf⟩ := ob hf
          refine q_getR e B hw fd_12_17.1 fd_12_17.2.1 fd_12_17.2.2.1 fd_12_17.2.2.2.1 fd_12_17.2.2.2.2 rfl tw_6_60 dX12_reckons_66 ?_
          refine lv_iload hx hb dX12_reckons_69 (lv_at hl 0 rfl) ?_
          refine lv_sipush (v := 1000) hx hb dX12_reckons_71 (by decide) ?_
          refine lv_isub hx hb dX12_reckons_74 ?_
          obtain ⟨x37, e, hf⟩ := ob hf
          refine q_ldI e B hw dX12_reckons_75 ?_
          exact w_X12_reckons_76 G B hz hc0 hr hlk ih h v0 v1 v2 v3 x37 v2 a34 _ _ _ hw (lv_sub hl [1, 2, 3, 4] rfl) hf
        · have hf := (if_neg c35).symm.trans hf
          refine lv_iload hx hb dX12_reckons_60 (lv_at hl 0 rfl) ?_
          refine lv_goto (tgt := 76) hx hb dX12_reckons_62 (by decide) ?_
          exact w_X12_reckons_76 G B hz hc0 hr hlk ih h v0 v1 v2 v3 x9 v2 a34 _ _ _ hw (lv_sub hl [1, 2, 3, 4] rfl) hf
set_option maxHeartbeats 4000000 in
theorem c_X12_reckons {l : Launch} {s0 : State} {E : Ev} (G : Gl s0 E) {n : Nat} {z : Sh} {h : Hp} {v0 : Nat} {v1 : Int32} {r : Int32} {h' : Hp} (hf : f_X12_reckons n z h v0 v1 = some (r, h')) : Ct l s0 E yX12_reckons cX12_reckons 5 (some .int) 1 24 [.ref v0, .int v1] z h h' (some (.int r)) := by
  refine Ct.of G (by decide) (Nat.le_of_ble_eq_true rfl) ?_
  intro p e s m below meth c ls B hw hz hc0 hr hlk hl
  have B : Bd p s0 s E m c cX12_reckons 5 RX12 := B
  have hx := B.1
  have hb := B.2.1
  have hl : lv_has ls 5 [(0, .ref v0), (1, .int v1)] := hl
  unfold f_X12_reckons at hf
  obtain ⟨_, hf⟩ := if_some hf
  refine lv_iconst (v := 0) hx hb dX12_reckons_0 (by decide) ?_
  refine lv_istore_n (lv' := [(2, .int 0), (0, .ref v0), (1, .int v1)]) hx hb dX12_reckons_1 rfl hl (by decide) rfl (fun ls hl => ?_)
  refine lv_iconst (v := 0) hx hb dX12_reckons_2 (by decide) ?_
  refine lv_istore_n (lv' := [(3, .int 0), (2, .int 0), (0, .ref v0), (1, .int v1)]) hx hb dX12_reckons_3 rfl hl (by decide) rfl (fun ls hl => ?_)
  exact w_X12_reckons_4 G B hz hc0 hr hlk  n h v0 v1 0 0 _ _ _ hw (lv_sub hl [2, 3, 1, 0] rfl) hf
/-! SecondLifeModel.standOf(IIIII)I -/
def f_X12_standOf_27 (z : Sh) (h : Hp) (v4 : Int32) (u0 : Int32) (u1 : Int32) : Option (Int32) :=
  some ((u1 + (u0 * 7)) + v4)
def f_X12_standOf (z : Sh) (h : Hp) (v0 : Int32) (v1 : Int32) (v2 : Int32) (v3 : Int32) (v4 : Int32) : Option (Int32) :=
  if v3 = 9 then
    f_X12_standOf_27 z h v4 4 ((((((v0 - 1) * 7) + v1) * 7) + v2) * 35)
  else
    f_X12_standOf_27 z h v4 v3 ((((((v0 - 1) * 7) + v1) * 7) + v2) * 35)
set_option maxHeartbeats 4000000 in
theorem w_X12_standOf_27 {p : Program} {l : Launch} {e : Env} {s : State} {m : MethodId} {args : Array Value} {below : List Frame} {meth : Method} {c : Code} {s0 : State} {E : Ev} {z : Sh} {h : Hp} {r : Int32} (G : Gl s0 E) (B : Bd p s0 s E m c cX12_standOf 5 RX12) (hz : s0.heap.size ≤ z.sz) (hc0 : s.heap.size + 0 = z.sz) (hr : meth.sig.returnType = (some .int)) (hlk : meth.locks = false) : ∀ (v4 : Int32) (u0 : Int32) (u1 : Int32) (H : Heap) (locs : List Loc) (ls : Array Slot), Pw s0 s E z h H locs → lv_has ls 5 [(4, .int v4)] → f_X12_standOf_27 z h v4 u0 u1 = some r → W p l e (rmO 0 0) s m args below meth c H locs 0 0 (Zt below s0 E z h (some (.int r)) args s 0 0) (F0 m 27 ls [.int u0, .int u1]) := by
  have hx := B.1
  have hb := B.2.1
  intro v4 u0 u1 H locs ls hw hl hf
  unfold f_X12_standOf_27 at hf
  refine lv_bipush (v := 7) hx hb dX12_standOf_27 (by decide) ?_
  refine lv_imul hx hb dX12_standOf_29 ?_
  refine lv_iadd hx hb dX12_standOf_30 ?_
  refine lv_iload hx hb dX12_standOf_31 (lv_at hl 0 rfl) ?_
  refine lv_iadd hx hb dX12_standOf_33 ?_
  obtain rfl := so hf
  exact q_iret B hw hz hc0 hr hlk dX12_standOf_34
set_option maxHeartbeats 4000000 in
theorem c_X12_standOf {l : Launch} {s0 : State} {E : Ev} (G : Gl s0 E) {z : Sh} {h : Hp} {v0 : Int32} {v1 : Int32} {v2 : Int32} {v3 : Int32} {v4 : Int32} {r : Int32} (hf : f_X12_standOf z h v0 v1 v2 v3 v4 = some r) : Ct l s0 E yX12_standOf cX12_standOf 5 (some .int) 0 0 [.int v0, .int v1, .int v2, .int v3, .int v4] z h h (some (.int r)) := by
  refine Ct.of G (by decide) (Nat.le_of_ble_eq_true rfl) ?_
  intro p e s m below meth c ls B hw hz hc0 hr hlk hl
  have B : Bd p s0 s E m c cX12_standOf 5 RX12 := B
  have hx := B.1
  have hb := B.2.1
  have hl : lv_has ls 5 [(0, .int v0), (1, .int v1), (2, .int v2), (3, .int v3), (4, .int v4)] := hl
  unfold f_X12_standOf at hf
  refine lv_iload_n hx hb dX12_standOf_0 rfl (lv_at hl 0 rfl) ?_
  refine lv_iconst (v := 1) hx hb dX12_standOf_1 (by decide) ?_
  refine lv_isub hx hb dX12_standOf_2 ?_
  refine lv_bipush (v := 7) hx hb dX12_standOf_3 (by decide) ?_
  refine lv_imul hx hb dX12_standOf_5 ?_
  refine lv_iload_n hx hb dX12_standOf_6 rfl (lv_at hl 1 rfl) ?_
  refine lv_iadd hx hb dX12_standOf_7 ?_
  refine lv_bipush (v := 7) hx hb dX12_standOf_8 (by decide) ?_
  refine lv_imul hx hb dX12_standOf_10 ?_
  refine lv_iload_n hx hb dX12_standOf_11 rfl (lv_at hl 2 rfl) ?_
  refine lv_iadd hx hb dX12_standOf_12 ?_
  refine lv_bipush (v := 35) hx hb dX12_standOf_13 (by decide) ?_
  refine lv_imul hx hb dX12_standOf_15 ?_
  refine lv_iload_n hx hb dX12_standOf_16 rfl (lv_at hl 3 rfl) ?_
  refine lv_bipush (v := 9) hx hb dX12_standOf_17 (by decide) ?_
  refine lv_icmp_ne (tgt := 26) hx hb dX12_standOf_19 (by decide) (fun c1 => ?_) (fun c1 => ?_)
  · have hf := (if_neg c1).symm.trans hf
    refine lv_iload_n hx hb dX12_standOf_26 rfl (lv_at hl 3 rfl) ?_
    exact w_X12_standOf_27 G B hz hc0 hr hlk  v4 v3 ((((((v0 - 1) * 7) + v1) * 7) + v2) * 35) _ _ _ hw (lv_sub hl [4] rfl) hf
  · have hf := (if_pos c1).symm.trans hf
    refine lv_iconst (v := 4) hx hb dX12_standOf_22 (by decide) ?_
    refine lv_goto (tgt := 27) hx hb dX12_standOf_23 (by decide) ?_
    exact w_X12_standOf_27 G B hz hc0 hr hlk  v4 4 ((((((v0 - 1) * 7) + v1) * 7) + v2) * 35) _ _ _ hw (lv_sub hl [4] rfl) hf
/-! SecondLifeModel.lifeOf(I)I -/
def f_X12_lifeOf (z : Sh) (h : Hp) (v0 : Int32) : Option (Int32) :=
  (dvI v0 1715).bind fun x1 =>
  some (1 + x1)
set_option maxHeartbeats 4000000 in
theorem c_X12_lifeOf {l : Launch} {s0 : State} {E : Ev} (G : Gl s0 E) {z : Sh} {h : Hp} {v0 : Int32} {r : Int32} (hf : f_X12_lifeOf z h v0 = some r) : Ct l s0 E yX12_lifeOf cX12_lifeOf 1 (some .int) 0 0 [.int v0] z h h (some (.int r)) := by
  refine Ct.of G (by decide) (Nat.le_of_ble_eq_true rfl) ?_
  intro p e s m below meth c ls B hw hz hc0 hr hlk hl
  have B : Bd p s0 s E m c cX12_lifeOf 1 RX12 := B
  have hx := B.1
  have hb := B.2.1
  have hl : lv_has ls 1 [(0, .int v0)] := hl
  unfold f_X12_lifeOf at hf
  refine lv_iconst (v := 1) hx hb dX12_lifeOf_0 (by decide) ?_
  refine lv_iload_n hx hb dX12_lifeOf_1 rfl (lv_at hl 0 rfl) ?_
  refine lv_sipush (v := 1715) hx hb dX12_lifeOf_2 (by decide) ?_
  obtain ⟨x1, e, hf⟩ := ob hf
  refine q_idiv e hx hb dX12_lifeOf_5 ?_
  refine lv_iadd hx hb dX12_lifeOf_6 ?_
  obtain rfl := so hf
  exact q_iret B hw hz hc0 hr hlk dX12_lifeOf_7
/-! SecondLifeModel.oldOf(I)I -/
def f_X12_oldOf (z : Sh) (h : Hp) (v0 : Int32) : Option (Int32) :=
  (dvI v0 245).bind fun x1 =>
  (rmI x1 7).bind fun x2 =>
  some x2
set_option maxHeartbeats 4000000 in
theorem c_X12_oldOf {l : Launch} {s0 : State} {E : Ev} (G : Gl s0 E) {z : Sh} {h : Hp} {v0 : Int32} {r : Int32} (hf : f_X12_oldOf z h v0 = some r) : Ct l s0 E yX12_oldOf cX12_oldOf 1 (some .int) 0 0 [.int v0] z h h (some (.int r)) := by
  refine Ct.of G (by decide) (Nat.le_of_ble_eq_true rfl) ?_
  intro p e s m below meth c ls B hw hz hc0 hr hlk hl
  have B : Bd p s0 s E m c cX12_oldOf 1 RX12 := B
  have hx := B.1
  have hb := B.2.1
  have hl : lv_has ls 1 [(0, .int v0)] := hl
  unfold f_X12_oldOf at hf
  refine lv_iload_n hx hb dX12_oldOf_0 rfl (lv_at hl 0 rfl) ?_
  refine lv_sipush (v := 245) hx hb dX12_oldOf_1 (by decide) ?_
  obtain ⟨x1, e, hf⟩ := ob hf
  refine q_idiv e hx hb dX12_oldOf_4 ?_
  refine lv_bipush (v := 7) hx hb dX12_oldOf_5 (by decide) ?_
  obtain ⟨x2, e, hf⟩ := ob hf
  refine q_irem e hx hb dX12_oldOf_7 ?_
  obtain rfl := so hf
  exact q_iret B hw hz hc0 hr hlk dX12_oldOf_8
/-! SecondLifeModel.yearOf(I)I -/
def f_X12_yearOf (z : Sh) (h : Hp) (v0 : Int32) : Option (Int32) :=
  (dvI v0 35).bind fun x1 =>
  (rmI x1 7).bind fun x2 =>
  some x2
set_option maxHeartbeats 4000000 in
theorem c_X12_yearOf {l : Launch} {s0 : State} {E : Ev} (G : Gl s0 E) {z : Sh} {h : Hp} {v0 : Int32} {r : Int32} (hf : f_X12_yearOf z h v0 = some r) : Ct l s0 E yX12_yearOf cX12_yearOf 1 (some .int) 0 0 [.int v0] z h h (some (.int r)) := by
  refine Ct.of G (by decide) (Nat.le_of_ble_eq_true rfl) ?_
  intro p e s m below meth c ls B hw hz hc0 hr hlk hl
  have B : Bd p s0 s E m c cX12_yearOf 1 RX12 := B
  have hx := B.1
  have hb := B.2.1
  have hl : lv_has ls 1 [(0, .int v0)] := hl
  unfold f_X12_yearOf at hf
  refine lv_iload_n hx hb dX12_yearOf_0 rfl (lv_at hl 0 rfl) ?_
  refine lv_bipush (v := 35) hx hb dX12_yearOf_1 (by decide) ?_
  obtain ⟨x1, e, hf⟩ := ob hf
  refine q_idiv e hx hb dX12_yearOf_3 ?_
  refine lv_bipush (v := 7) hx hb dX12_yearOf_4 (by decide) ?_
  obtain ⟨x2, e, hf⟩ := ob hf
  refine q_irem e hx hb dX12_yearOf_6 ?_
  obtain rfl := so hf
  exact q_iret B hw hz hc0 hr hlk dX12_yearOf_7
