/-! SecondLifeModel.yearsLeft(I)I -/
def f_X12_yearsLeft (z : Sh) (h : Hp) (v0 : Nat) (v1 : Int32) : Option (Int32) :=
  if z.K v0 = 12 then
    (gR z h 12 v0 1).bind fun a1 =>
    (ldI z h a1 1).bind fun x2 =>
    (f_X12_yearOf z h v1).bind fun x3 =>
    (f_X12_canDraw z h v0 v1).bind fun x4 =>
    if x4 = 0 then
      some ((x2 - x3) + 0)
    else
      (gR z h 12 v0 1).bind fun a6 =>
      (ldI z h a6 1).bind fun x7 =>
      some ((x2 - x3) + x7)
  else none
theorem k_X12_yearsLeft {z : Sh} {h : Hp} {v0 : Nat} {v1 : Int32} {w : Int32} (hf : f_X12_yearsLeft z h v0 v1 = some w) : z.K v0 = 12 := by
  unfold f_X12_yearsLeft at hf
  exact (if_some hf).1
set_option maxHeartbeats 4000000 in
theorem c_X12_yearsLeft {l : Launch} {s0 : State} {E : Ev} (G : Gl s0 E) {z : Sh} {h : Hp} {v0 : Nat} {v1 : Int32} {r : Int32} (hf : f_X12_yearsLeft z h v0 v1 = some r) : Ct l s0 E yX12_yearsLeft cX12_yearsLeft 2 (some .int) 2 41 [.ref v0, .int v1] z h h (some (.int r)) := by
  refine Ct.of G (by decide) (Nat.le_of_ble_eq_true rfl) ?_
  intro p e s m below meth c ls B hw hz hc0 hr hlk hl
  have B : Bd p s0 s E m c cX12_yearsLeft 2 RX12 := B
  have hx := B.1
  have hb := B.2.1
  have hl : lv_has ls 2 [(0, .ref v0), (1, .int v1)] := hl
  unfold f_X12_yearsLeft at hf
  obtain ⟨_, hf⟩ := if_some hf
  refine lv_aload_n hx hb dX12_yearsLeft_0 rfl (lv_at hl 0 rfl) ?_
  obtain ⟨a1, e, hf⟩ := ob hf
  refine q_getR e B hw fd_12_1.1 fd_12_1.2.1 fd_12_1.2.2.1 fd_12_1.2.2.2.1 fd_12_1.2.2.2.2 rfl tw_6_48 dX12_yearsLeft_1 ?_
  refine lv_iconst (v := 1) hx hb dX12_yearsLeft_4 (by decide) ?_
  obtain ⟨x2, e, hf⟩ := ob hf
  refine q_ldI e B hw dX12_yearsLeft_5 ?_
  refine lv_iload_n hx hb dX12_yearsLeft_6 rfl (lv_at hl 1 rfl) ?_
  obtain ⟨x3, e, hf⟩ := ob hf
  refine q_callS (As := [.int v1]) (rest := [.int x2]) (st1 := [.int x3, .int x2]) (c_X12_yearOf G e) B hw hz hc0 my_X12_yearOf mv_X12_yearOf tw_7_63 ⟨Nat.le_of_ble_eq_true rfl, Nat.le_of_ble_eq_true rfl⟩ ⟨Nat.zero_le _, Nat.zero_le _⟩ rfl hl.1 rfl rfl (Nat.le_of_ble_eq_true rfl) dX12_yearsLeft_7 (fun H locs hw => ?_)
  refine lv_isub hx hb dX12_yearsLeft_10 ?_
  refine lv_aload_n hx hb dX12_yearsLeft_11 rfl (lv_at hl 0 rfl) ?_
  refine lv_iload_n hx hb dX12_yearsLeft_12 rfl (lv_at hl 1 rfl) ?_
  obtain ⟨x4, e, hf⟩ := ob hf
  refine q_callV (As := [.int v1]) (rest := [.int (x2 - x3)]) (st1 := [.int x4, .int (x2 - x3)]) (c_X12_canDraw G e) B hw hz hc0 (k_X12_canDraw e) (by decide) (ci := 12) rfl rfl my_X12_canDraw mv_X12_canDraw tw_8_5 ⟨Nat.le_of_ble_eq_true rfl, Nat.le_of_ble_eq_true rfl⟩ ⟨Nat.zero_le _, Nat.zero_le _⟩ rfl hl.1 rfl rfl (Nat.le_of_ble_eq_true rfl) dX12_yearsLeft_13 (fun H locs hw => ?_)
  refine lv_if_eq (tgt := 28) hx hb dX12_yearsLeft_16 (by decide) (fun c5 => ?_) (fun c5 => ?_)
  · have hf := (if_pos c5).symm.trans hf
    refine lv_iconst (v := 0) hx hb dX12_yearsLeft_28 (by decide) ?_
    refine lv_iadd hx hb dX12_yearsLeft_29 ?_
    obtain rfl := so hf
    exact q_iret B hw hz hc0 hr hlk dX12_yearsLeft_30
  · have hf := (if_neg c5).symm.trans hf
    refine lv_aload_n hx hb dX12_yearsLeft_19 rfl (lv_at hl 0 rfl) ?_
    obtain ⟨a6, e, hf⟩ := ob hf
    refine q_getR e B hw fd_12_1.1 fd_12_1.2.1 fd_12_1.2.2.1 fd_12_1.2.2.2.1 fd_12_1.2.2.2.2 rfl tw_6_48 dX12_yearsLeft_20 ?_
    refine lv_iconst (v := 1) hx hb dX12_yearsLeft_23 (by decide) ?_
    obtain ⟨x7, e, hf⟩ := ob hf
    refine q_ldI e B hw dX12_yearsLeft_24 ?_
    refine lv_goto (tgt := 29) hx hb dX12_yearsLeft_25 (by decide) ?_
    refine lv_iadd hx hb dX12_yearsLeft_29 ?_
    obtain rfl := so hf
    exact q_iret B hw hz hc0 hr hlk dX12_yearsLeft_30
/-! SecondLifeModel.beginsHope(I)V -/
def f_X12_beginsHope_7 (n : Nat) (z : Sh) : Nat → Hp → Nat → Int32 → Option (Hp)
  | 0, _, _, _ => none
  | i + 1, h, v0, v2 =>
    if 373870 ≤ v2 then
      some h
    else
      (gR z h 12 v0 30).bind fun a2 =>
      (stJ z h a2 v2 (-1)).bind fun h3 =>
      (some (v2 + 1)).bind fun x4 =>
      (f_X12_beginsHope_7 n z i) h3 v0 x4
def f_X12_beginsHope (n : Nat) (z : Sh) (h : Hp) (v0 : Nat) (v1 : Int32) : Option (Hp) :=
  if z.K v0 = 12 then
    (f_X12_begins n z h v0 v1).bind fun h1 =>
    f_X12_beginsHope_7 n z n h1 v0 0
  else none
theorem k_X12_beginsHope {n : Nat} {z : Sh} {h : Hp} {v0 : Nat} {v1 : Int32} {w : Hp} (hf : f_X12_beginsHope n z h v0 v1 = some w) : z.K v0 = 12 := by
  unfold f_X12_beginsHope at hf
  exact (if_some hf).1
set_option maxHeartbeats 4000000 in
theorem w_X12_beginsHope_7 {p : Program} {l : Launch} {e : Env} {s : State} {m : MethodId} {args : Array Value} {below : List Frame} {meth : Method} {c : Code} {s0 : State} {E : Ev} {z : Sh} {n : Nat} {h' : Hp} (G : Gl s0 E) (B : Bd p s0 s E m c cX12_beginsHope 3 RX12) (hz : s0.heap.size ≤ z.sz) (hc0 : s.heap.size + 0 = z.sz) (hr : meth.sig.returnType = none) (hlk : meth.locks = false) : ∀ (i : Nat), ∀ (h : Hp) (v0 : Nat) (v2 : Int32) (H : Heap) (locs : List Loc) (ls : Array Slot), Pw s0 s E z h H locs → lv_has ls 3 [(0, .ref v0), (2, .int v2)] → f_X12_beginsHope_7 n z i h v0 v2 = some h' → W p l e (rmO 1 22) s m args below meth c H locs 0 0 (Zt below s0 E z h' (none) args s 0 0) (F0 m 7 ls []) := by
  have hx := B.1
  have hb := B.2.1
  intro i
  induction i with
  | zero =>
    intro h v0 v2 H locs ls hw hl hf
    have hf := (f_X12_beginsHope_7.eq_1 ..).symm.trans hf
    cases hf
  | succ i ih =>
    intro h v0 v2 H locs ls hw hl hf
    have hf := (f_X12_beginsHope_7.eq_2 ..).symm.trans hf
    refine lv_iload_n hx hb dX12_beginsHope_7 rfl (lv_at hl 1 rfl) ?_
    refine lv_ldc hx hb B.2.2.2.1 (B.w tw_6_43 rfl) dX12_beginsHope_8 ?_
    refine lv_icmp_ge (tgt := 28) hx hb dX12_beginsHope_10 (by decide) (fun c1 => ?_) (fun c1 => ?_)
    · have hf := (if_pos c1).symm.trans hf
      obtain rfl := so hf
      exact q_vret B hw hz hc0 hr hlk dX12_beginsHope_28
    · have hf := (if_neg c1).symm.trans hf
      refine lv_aload_n hx hb dX12_beginsHope_13 rfl (lv_at hl 0 rfl) ?_
      obtain ⟨a2, e, hf⟩ := ob hf
      refine q_getR e B hw fd_12_30.1 fd_12_30.2.1 fd_12_30.2.2.1 fd_12_30.2.2.2.1 fd_12_30.2.2.2.2 rfl tw_6_77 dX12_beginsHope_14 ?_
      refine lv_iload_n hx hb dX12_beginsHope_17 rfl (lv_at hl 1 rfl) ?_
      refine lv_ldc2 hx hb B.2.2.2.1 (B.w tw_8_92 rfl) dX12_beginsHope_18 ?_
      obtain ⟨h3, e, hf⟩ := ob hf
      refine q_stJ e B hw dX12_beginsHope_21 (fun H locs hw => ?_)
      obtain ⟨x4, e, hf⟩ := ob hf
      refine lv_iinc (v := x4) (lv' := [(2, .int x4), (0, .ref v0)]) hx hb dX12_beginsHope_22 hl (k := 1) rfl (Option.some.inj e) (by decide) rfl (fun ls hl => ?_)
      refine lv_goto (tgt := 7) hx hb dX12_beginsHope_25 (by decide) ?_
      exact ih h3 v0 x4 _ _ _ hw (lv_sub hl [1, 0] rfl) hf
set_option maxHeartbeats 4000000 in
theorem c_X12_beginsHope {l : Launch} {s0 : State} {E : Ev} (G : Gl s0 E) {n : Nat} {z : Sh} {h : Hp} {v0 : Nat} {v1 : Int32} {h' : Hp} (hf : f_X12_beginsHope n z h v0 v1 = some h') : Ct l s0 E yX12_beginsHope cX12_beginsHope 3 none 1 22 [.ref v0, .int v1] z h h' (none) := by
  refine Ct.of G (by decide) (Nat.le_of_ble_eq_true rfl) ?_
  intro p e s m below meth c ls B hw hz hc0 hr hlk hl
  have B : Bd p s0 s E m c cX12_beginsHope 3 RX12 := B
  have hx := B.1
  have hb := B.2.1
  have hl : lv_has ls 3 [(0, .ref v0), (1, .int v1)] := hl
  unfold f_X12_beginsHope at hf
  obtain ⟨_, hf⟩ := if_some hf
  refine lv_aload_n hx hb dX12_beginsHope_0 rfl (lv_at hl 0 rfl) ?_
  refine lv_iload_n hx hb dX12_beginsHope_1 rfl (lv_at hl 1 rfl) ?_
  obtain ⟨h1, e, hf⟩ := ob hf
  refine q_callV (As := [.int v1]) (rest := []) (st1 := []) (c_X12_begins G e) B hw hz hc0 (k_X12_begins e) (by decide) (ci := 12) rfl rfl my_X12_begins mv_X12_begins tw_7_237 ⟨Nat.le_of_ble_eq_true rfl, Nat.le_of_ble_eq_true rfl⟩ ⟨Nat.zero_le _, Nat.zero_le _⟩ rfl hl.1 rfl rfl (Nat.le_of_ble_eq_true rfl) dX12_beginsHope_2 (fun H locs hw => ?_)
  refine lv_iconst (v := 0) hx hb dX12_beginsHope_5 (by decide) ?_
  refine lv_istore_n (lv' := [(2, .int 0), (0, .ref v0), (1, .int v1)]) hx hb dX12_beginsHope_6 rfl hl (by decide) rfl (fun ls hl => ?_)
  exact w_X12_beginsHope_7 G B hz hc0 hr hlk  n h1 v0 0 _ _ _ hw (lv_sub hl [1, 0] rfl) hf
/-! SecondLifeModel.noLived(II)I -/
def f_X12_noLived_85 (n : Nat) (z : Sh) (h : Hp) : Nat → Nat → Int32 → Int32 → Option (Int32)
  | 0, _, _, _ => none
  | i + 1, v0, v1, v4 =>
    (gR z h 12 v0 34).bind fun a1 =>
    (ldI z h a1 v1).bind fun x2 =>
    if x2 ≤ v4 then
      some (0 : Int32)
    else
      (gR z h 12 v0 35).bind fun a4 =>
      (ldJ z h a4 ((40 * v1) + v4)).bind fun x5 =>
      (f_X12_isTrade z h v0 x5).bind fun x6 =>
      if x6 = 0 then
        some ((-99000003) : Int32)
      else
        (some (v4 + 1)).bind fun x8 =>
        (f_X12_noLived_85 n z h i) v0 v1 x8
def f_X12_noLived (n : Nat) (z : Sh) (h : Hp) (v0 : Nat) (v1 : Int32) (v2 : Int32) : Option (Int32) :=
  if z.K v0 = 12 then
    (f_X12_within z h (Int32.toInt64 v1) 0 3).bind fun x1 =>
    if x1 = 0 then
      some ((-99000002) : Int32)
    else
      (f_X12_isPerson z h v0 (Int32.toInt64 v2)).bind fun x3 =>
      if x3 = 0 then
        some ((-99000002) : Int32)
      else
        (f_X12_noTray z h v0 v1).bind fun x5 =>
        if x5 = 0 then
          (gR z h 12 v0 34).bind fun a7 =>
          (ldI z h a7 v1).bind fun x8 =>
          (f_X12_within z h (Int32.toInt64 x8) 1 12).bind fun x9 =>
          if x9 = 0 then
            some ((-99000004) : Int32)
          else
            (gR z h 12 v0 34).bind fun a11 =>
            (ldI z h a11 v1).bind fun x12 =>
            (gR z h 12 v0 1).bind fun a13 =>
            (ldI z h a13 1).bind fun x14 =>
            (gR z h 12 v0 1).bind fun a15 =>
            (ldI z h a15 (18 + v2)).bind fun x16 =>
            if x12 ≤ (x14 - x16) then
              f_X12_noLived_85 n z h n v0 v1 0
            else
              some ((-99000004) : Int32)
        else
          some x5
  else none
theorem k_X12_noLived {n : Nat} {z : Sh} {h : Hp} {v0 : Nat} {v1 : Int32} {v2 : Int32} {w : Int32} (hf : f_X12_noLived n z h v0 v1 v2 = some w) : z.K v0 = 12 := by
  unfold f_X12_noLived at hf
  exact (if_some hf).1
set_option maxHeartbeats 4000000 in
theorem w_X12_noLived_85 {p : Program} {l : Launch} {e : Env} {s : State} {m : MethodId} {args : Array Value} {below : List Frame} {meth : Method} {c : Code} {s0 : State} {E : Ev} {z : Sh} {h : Hp} {n : Nat} {r : Int32} (G : Gl s0 E) (B : Bd p s0 s E m c cX12_noLived 5 RX12) (hz : s0.heap.size ≤ z.sz) (hc0 : s.heap.size + 0 = z.sz) (hr : meth.sig.returnType = (some .int)) (hlk : meth.locks = false) : ∀ (i : Nat), ∀ (v0 : Nat) (v1 : Int32) (v4 : Int32) (H : Heap) (locs : List Loc) (ls : Array Slot), Pw s0 s E z h H locs → lv_has ls 5 [(0, .ref v0), (1, .int v1), (4, .int v4)] → f_X12_noLived_85 n z h i v0 v1 v4 = some r → W p l e (rmO 2 47) s m args below meth c H locs 0 0 (Zt below s0 E z h (some (.int r)) args s 0 0) (F0 m 85 ls []) := by
  have hx := B.1
  have hb := B.2.1
  intro i
  induction i with
  | zero =>
    intro v0 v1 v4 H locs ls hw hl hf
    have hf := (f_X12_noLived_85.eq_1 ..).symm.trans hf
    cases hf
  | succ i ih =>
    intro v0 v1 v4 H locs ls hw hl hf
    have hf := (f_X12_noLived_85.eq_2 ..).symm.trans hf
    refine lv_iload hx hb dX12_noLived_85 (lv_at hl 2 rfl) ?_
    refine lv_aload_n hx hb dX12_noLived_87 rfl (lv_at hl 0 rfl) ?_
    obtain ⟨a1, e, hf⟩ := ob hf
    refine q_getR e B hw fd_12_34.1 fd_12_34.2.1 fd_12_34.2.2.1 fd_12_34.2.2.2.1 fd_12_34.2.2.2.2 rfl tw_6_81 dX12_noLived_88 ?_
    refine lv_iload_n hx hb dX12_noLived_91 rfl (lv_at hl 1 rfl) ?_
    obtain ⟨x2, e, hf⟩ := ob hf
    refine q_ldI e B hw dX12_noLived_92 ?_
    refine lv_icmp_ge (tgt := 124) hx hb dX12_noLived_93 (by decide) (fun c3 => ?_) (fun c3 => ?_)
    · have hf := (if_pos c3).symm.trans hf
      refine lv_iconst (v := 0) hx hb dX12_noLived_124 (by decide) ?_
      obtain rfl := so hf
      exact q_iret B hw hz hc0 hr hlk dX12_noLived_125
    · have hf := (if_neg c3).symm.trans hf
      refine lv_aload_n hx hb dX12_noLived_96 rfl (lv_at hl 0 rfl) ?_
      refine lv_aload_n hx hb dX12_noLived_97 rfl (lv_at hl 0 rfl) ?_
      obtain ⟨a4, e, hf⟩ := ob hf
      refine q_getR e B hw fd_12_35.1 fd_12_35.2.1 fd_12_35.2.2.1 fd_12_35.2.2.2.1 fd_12_35.2.2.2.2 rfl tw_6_82 dX12_noLived_98 ?_
      refine lv_bipush (v := 40) hx hb dX12_noLived_101 (by decide) ?_
      refine lv_iload_n hx hb dX12_noLived_103 rfl (lv_at hl 1 rfl) ?_
      refine lv_imul hx hb dX12_noLived_104 ?_
      refine lv_iload hx hb dX12_noLived_105 (lv_at hl 2 rfl) ?_
      refine lv_iadd hx hb dX12_noLived_107 ?_
      obtain ⟨x5, e, hf⟩ := ob hf
      refine q_ldJ e B hw dX12_noLived_108 ?_
      obtain ⟨x6, e, hf⟩ := ob hf
      refine q_callV (As := [.long x5]) (rest := []) (st1 := [.int x6]) (c_X12_isTrade G e) B hw hz hc0 (k_X12_isTrade e) (by decide) (ci := 12) rfl rfl my_X12_isTrade mv_X12_isTrade tw_7_48 ⟨Nat.le_of_ble_eq_true rfl, Nat.le_of_ble_eq_true rfl⟩ ⟨Nat.zero_le _, Nat.zero_le _⟩ rfl hl.1 rfl rfl (Nat.le_of_ble_eq_true rfl) dX12_noLived_109 (fun H locs hw => ?_)
      refine lv_if_ne (tgt := 118) hx hb dX12_noLived_112 (by decide) (fun c7 => ?_) (fun c7 => ?_)
      · have hf := (if_neg c7).symm.trans hf
        obtain ⟨x8, e, hf⟩ := ob hf
        refine lv_iinc (v := x8) (lv' := [(4, .int x8), (0, .ref v0), (1, .int v1)]) hx hb dX12_noLived_118 hl (k := 2) rfl (Option.some.inj e) (by decide) rfl (fun ls hl => ?_)
        refine lv_goto (tgt := 85) hx hb dX12_noLived_121 (by decide) ?_
        exact ih v0 v1 x8 _ _ _ hw (lv_sub hl [1, 2, 0] rfl) hf
      · have hf := (if_pos c7).symm.trans hf
        refine lv_ldc hx hb B.2.2.2.1 (B.w tw_6_169 rfl) dX12_noLived_115 ?_
        obtain rfl := so hf
        exact q_iret B hw hz hc0 hr hlk dX12_noLived_117
set_option maxHeartbeats 4000000 in
theorem c_X12_noLived {l : Launch} {s0 : State} {E : Ev} (G : Gl s0 E) {n : Nat} {z : Sh} {h : Hp} {v0 : Nat} {v1 : Int32} {v2 : Int32} {r : Int32} (hf : f_X12_noLived n z h v0 v1 v2 = some r) : Ct l s0 E yX12_noLived cX12_noLived 5 (some .int) 2 47 [.ref v0, .int v1, .int v2] z h h (some (.int r)) := by
  refine Ct.of G (by decide) (Nat.le_of_ble_eq_true rfl) ?_
  intro p e s m below meth c ls B hw hz hc0 hr hlk hl
  have B : Bd p s0 s E m c cX12_noLived 5 RX12 := B
  have hx := B.1
  have hb := B.2.1
  have hl : lv_has ls 5 [(0, .ref v0), (1, .int v1), (2, .int v2)] := hl
  unfold f_X12_noLived at hf
  obtain ⟨_, hf⟩ := if_some hf
  refine lv_iload_n hx hb dX12_noLived_0 rfl (lv_at hl 1 rfl) ?_
  refine lv_i2l (v := (Int32.toInt64 v1)) hx hb dX12_noLived_1 rfl ?_
  refine lv_lconst (v := 0) hx hb dX12_noLived_2 (by decide) ?_
  refine lv_ldc2 hx hb B.2.2.2.1 (B.w tw_7_179 rfl) dX12_noLived_3 ?_
  obtain ⟨x1, e, hf⟩ := ob hf
  refine q_callS (As := [.long (Int32.toInt64 v1), .long 0, .long 3]) (rest := []) (st1 := [.int x1]) (c_X12_within G e) B hw hz hc0 my_X12_within mv_X12_within tw_6_166 ⟨Nat.le_of_ble_eq_true rfl, Nat.le_of_ble_eq_true rfl⟩ ⟨Nat.zero_le _, Nat.zero_le _⟩ rfl hl.1 rfl rfl (Nat.le_of_ble_eq_true rfl) dX12_noLived_6 (fun H locs hw => ?_)
  refine lv_if_eq (tgt := 21) hx hb dX12_noLived_9 (by decide) (fun c2 => ?_) (fun c2 => ?_)
  · have hf := (if_pos c2).symm.trans hf
    refine lv_ldc hx hb B.2.2.2.1 (B.w tw_7_43 rfl) dX12_noLived_21 ?_
    obtain rfl := so hf
    exact q_iret B hw hz hc0 hr hlk dX12_noLived_23
  · have hf := (if_neg c2).symm.trans hf
    refine lv_aload_n hx hb dX12_noLived_12 rfl (lv_at hl 0 rfl) ?_
    refine lv_iload_n hx hb dX12_noLived_13 rfl (lv_at hl 2 rfl) ?_
    refine lv_i2l (v := (Int32.toInt64 v2)) hx hb dX12_noLived_14 rfl ?_
    obtain ⟨x3, e, hf⟩ := ob hf
    refine q_callV (As := [.long (Int32.toInt64 v2)]) (rest := []) (st1 := [.int x3]) (c_X12_isPerson G e) B hw hz hc0 (k_X12_isPerson e) (by decide) (ci := 12) rfl rfl my_X12_isPerson mv_X12_isPerson tw_7_39 ⟨Nat.le_of_ble_eq_true rfl, Nat.le_of_ble_eq_true rfl⟩ ⟨Nat.zero_le _, Nat.zero_le _⟩ rfl hl.1 rfl rfl (Nat.le_of_ble_eq_true rfl) dX12_noLived_15 (fun H locs hw => ?_)
    refine lv_if_ne (tgt := 24) hx hb dX12_noLived_18 (by decide) (fun c4 => ?_) (fun c4 => ?_)
    · have hf := (if_neg c4).symm.trans hf
      refine lv_aload_n hx hb dX12_noLived_24 rfl (lv_at hl 0 rfl) ?_
      refine lv_iload_n hx hb dX12_noLived_25 rfl (lv_at hl 1 rfl) ?_
      obtain ⟨x5, e, hf⟩ := ob hf
      refine q_callV (As := [.int v1]) (rest := []) (st1 := [.int x5]) (c_X12_noTray G e) B hw hz hc0 (k_X12_noTray e) (by decide) (ci := 12) rfl rfl my_X12_noTray mv_X12_noTray tw_7_180 ⟨Nat.le_of_ble_eq_true rfl, Nat.le_of_ble_eq_true rfl⟩ ⟨Nat.zero_le _, Nat.zero_le _⟩ rfl hl.1 rfl rfl (Nat.le_of_ble_eq_true rfl) dX12_noLived_26 (fun H locs hw => ?_)
      refine lv_istore_n (lv' := [(3, .int x5), (0, .ref v0), (1, .int v1), (2, .int v2)]) hx hb dX12_noLived_29 rfl hl (by decide) rfl (fun ls hl => ?_)
      refine lv_iload_n hx hb dX12_noLived_30 rfl (lv_at hl 0 rfl) ?_
      refine lv_if_eq (tgt := 36) hx hb dX12_noLived_31 (by decide) (fun c6 => ?_) (fun c6 => ?_)
      · have hf := (if_pos c6).symm.trans hf
        refine lv_aload_n hx hb dX12_noLived_36 rfl (lv_at hl 1 rfl) ?_
        obtain ⟨a7, e, hf⟩ := ob hf
        refine q_getR e B hw fd_12_34.1 fd_12_34.2.1 fd_12_34.2.2.1 fd_12_34.2.2.2.1 fd_12_34.2.2.2.2 rfl tw_6_81 dX12_noLived_37 ?_
        refine lv_iload_n hx hb dX12_noLived_40 rfl (lv_at hl 2 rfl) ?_
        obtain ⟨x8, e, hf⟩ := ob hf
        refine q_ldI e B hw dX12_noLived_41 ?_
        refine lv_i2l (v := (Int32.toInt64 x8)) hx hb dX12_noLived_42 rfl ?_
        refine lv_lconst (v := 1) hx hb dX12_noLived_43 (by decide) ?_
        refine lv_ldc2 hx hb B.2.2.2.1 (B.w tw_8_121 rfl) dX12_noLived_44 ?_
        obtain ⟨x9, e, hf⟩ := ob hf
        refine q_callS (As := [.long (Int32.toInt64 x8), .long 1, .long 12]) (rest := []) (st1 := [.int x9]) (c_X12_within G e) B hw hz hc0 my_X12_within mv_X12_within tw_6_166 ⟨Nat.le_of_ble_eq_true rfl, Nat.le_of_ble_eq_true rfl⟩ ⟨Nat.zero_le _, Nat.zero_le _⟩ rfl hl.1 rfl rfl (Nat.le_of_ble_eq_true rfl) dX12_noLived_47 (fun H locs hw => ?_)
        refine lv_if_eq (tgt := 78) hx hb dX12_noLived_50 (by decide) (fun c10 => ?_) (fun c10 => ?_)
        · have hf := (if_pos c10).symm.trans hf
          refine lv_ldcw hx hb B.2.2.2.1 (B.w tw_8_122 rfl) dX12_noLived_78 ?_
          obtain rfl := so hf
          exact q_iret B hw hz hc0 hr hlk dX12_noLived_81
        · have hf := (if_neg c10).symm.trans hf
          refine lv_aload_n hx hb dX12_noLived_53 rfl (lv_at hl 1 rfl) ?_
          obtain ⟨a11, e, hf⟩ := ob hf
          refine q_getR e B hw fd_12_34.1 fd_12_34.2.1 fd_12_34.2.2.1 fd_12_34.2.2.2.1 fd_12_34.2.2.2.2 rfl tw_6_81 dX12_noLived_54 ?_
          refine lv_iload_n hx hb dX12_noLived_57 rfl (lv_at hl 2 rfl) ?_
          obtain ⟨x12, e, hf⟩ := ob hf
          refine q_ldI e B hw dX12_noLived_58 ?_
          refine lv_aload_n hx hb dX12_noLived_59 rfl (lv_at hl 1 rfl) ?_
          obtain ⟨a13, e, hf⟩ := ob hf
          refine q_getR e B hw fd_12_1.1 fd_12_1.2.1 fd_12_1.2.2.1 fd_12_1.2.2.2.1 fd_12_1.2.2.2.2 rfl tw_6_48 dX12_noLived_60 ?_
          refine lv_iconst (v := 1) hx hb dX12_noLived_63 (by decide) ?_
          obtain ⟨x14, e, hf⟩ := ob hf
          refine q_ldI e B hw dX12_noLived_64 ?_
          refine lv_aload_n hx hb dX12_noLived_65 rfl (lv_at hl 1 rfl) ?_
          obtain ⟨a15, e, hf⟩ := ob hf
          refine q_getR e B hw fd_12_1.1 fd_12_1.2.1 fd_12_1.2.2.1 fd_12_1.2.2.2.1 fd_12_1.2.2.2.2 rfl tw_6_48 dX12_noLived_66 ?_
          refine lv_bipush (v := 18) hx hb dX12_noLived_69 (by decide) ?_
          refine lv_iload_n hx hb dX12_noLived_71 rfl (lv_at hl 3 rfl) ?_
          refine lv_iadd hx hb dX12_noLived_72 ?_
          obtain ⟨x16, e, hf⟩ := ob hf
          refine q_ldI e B hw dX12_noLived_73 ?_
          refine lv_isub hx hb dX12_noLived_74 ?_
          refine lv_icmp_le (tgt := 82) hx hb dX12_noLived_75 (by decide) (fun c17 => ?_) (fun c17 => ?_)
          · have hf := (if_pos c17).symm.trans hf
            refine lv_iconst (v := 0) hx hb dX12_noLived_82 (by decide) ?_
            refine lv_istore (lv' := [(4, .int 0), (3, .int x5), (0, .ref v0), (1, .int v1), (2, .int v2)]) hx hb dX12_noLived_83 hl (by decide) rfl (fun ls hl => ?_)
            exact w_X12_noLived_85 G B hz hc0 hr hlk  n v0 v1 0 _ _ _ hw (lv_sub hl [2, 3, 0] rfl) hf
          · have hf := (if_neg c17).symm.trans hf
            refine lv_ldcw hx hb B.2.2.2.1 (B.w tw_8_122 rfl) dX12_noLived_78 ?_
            obtain rfl := so hf
            exact q_iret B hw hz hc0 hr hlk dX12_noLived_81
      · have hf := (if_neg c6).symm.trans hf
        refine lv_iload_n hx hb dX12_noLived_34 rfl (lv_at hl 0 rfl) ?_
        obtain rfl := so hf
        exact q_iret B hw hz hc0 hr hlk dX12_noLived_35
    · have hf := (if_pos c4).symm.trans hf
      refine lv_ldc hx hb B.2.2.2.1 (B.w tw_7_43 rfl) dX12_noLived_21 ?_
      obtain rfl := so hf
      exact q_iret B hw hz hc0 hr hlk dX12_noLived_23
/-! SecondLifeModel.talentsOf(III)I -/
def f_X12_talentsOf_98 (n : Nat) (z : Sh) (k6 : Hp → Nat → Int32 → Int32 → Int32 → Int32 → Int32 → Option (Int32 × Hp)) (h : Hp) (v0 : Nat) (v1 : Int32) (v2 : Int32) (v3 : Int32) (v5 : Int32) (u0 : Int32) (u1 : Int32) : Option (Int32 × Hp) :=
  (some (u1 ||| u0)).bind fun x1 =>
  (some (v5 + 1)).bind fun x2 =>
  k6 h v0 v1 v2 v3 x1 x2
def f_X12_talentsOf_26 (n : Nat) (z : Sh) (k6 : Hp → Nat → Int32 → Int32 → Int32 → Int32 → Int32 → Option (Int32 × Hp)) : Nat → Hp → Nat → Int32 → Int32 → Int32 → Int32 → Int32 → Int32 → Int32 → Int32 → Option (Int32 × Hp)
  | 0, _, _, _, _, _, _, _, _, _, _ => none
  | i + 1, h, v0, v1, v2, v3, v4, v5, v6, v7, v8 =>
    (gR z h 12 v0 34).bind fun a1 =>
    (ldI z h a1 v1).bind fun x2 =>
    if x2 ≤ v8 then
      if v7 = v3 then
        f_X12_talentsOf_98 n z k6 h v0 v1 v2 v3 v5 ((1 : Int32) <<< (v5 &&& 31)) v4
      else
        f_X12_talentsOf_98 n z k6 h v0 v1 v2 v3 v5 0 v4
    else
      (gR z h 12 v0 35).bind fun a5 =>
      (ldJ z h a5 ((40 * v1) + v8)).bind fun x6 =>
      (some (Int64.toInt32 x6)).bind fun x7 =>
      (f_X12_worthOf n z h v0 v5 v6 x7).bind fun (x8, h9) =>
      (some (v7 + x8)).bind fun x10 =>
      (f_X12_livedTo z h9 v6 x7).bind fun x11 =>
      (some (v8 + 1)).bind fun x12 =>
      (f_X12_talentsOf_26 n z k6 i) h9 v0 v1 v2 v3 v4 v5 x11 x10 x12
def f_X12_talentsOf_6 (n : Nat) (z : Sh) : Nat → Hp → Nat → Int32 → Int32 → Int32 → Int32 → Int32 → Option (Int32 × Hp)
  | 0, _, _, _, _, _, _, _ => none
  | i + 1, h, v0, v1, v2, v3, v4, v5 =>
    if 10 ≤ v5 then
      some (v4, h)
    else
      (f_X12_standNow z h v0 v2).bind fun x2 =>
      f_X12_talentsOf_26 n z (f_X12_talentsOf_6 n z i) n h v0 v1 v2 v3 v4 v5 x2 0 0
def f_X12_talentsOf (n : Nat) (z : Sh) (h : Hp) (v0 : Nat) (v1 : Int32) (v2 : Int32) (v3 : Int32) : Option (Int32 × Hp) :=
  if z.K v0 = 12 then
    f_X12_talentsOf_6 n z n h v0 v1 v2 v3 0 0
  else none
theorem k_X12_talentsOf {n : Nat} {z : Sh} {h : Hp} {v0 : Nat} {v1 : Int32} {v2 : Int32} {v3 : Int32} {w : Int32 × Hp} (hf : f_X12_talentsOf n z h v0 v1 v2 v3 = some w) : z.K v0 = 12 := by
  unfold f_X12_talentsOf at hf
  exact (if_some hf).1
set_option maxHeartbeats 4000000 in
theorem w_X12_talentsOf_98 {p : Program} {l : Launch} {e : Env} {s : State} {m : MethodId} {args : Array Value} {below : List Frame} {meth : Method} {c : Code} {s0 : State} {E : Ev} {z : Sh} {n : Nat} {k6 : Hp → Nat → Int32 → Int32 → Int32 → Int32 → Int32 → Option (Int32 × Hp)} {r : Int32} {h' : Hp} (G : Gl s0 E) (B : Bd p s0 s E m c cX12_talentsOf 10 RX12) (hz : s0.heap.size ≤ z.sz) (hc0 : s.heap.size + 0 = z.sz) (hr : meth.sig.returnType = (some .int)) (hlk : meth.locks = false) (hk6 : ∀ (h : Hp) (v0 : Nat) (v1 : Int32) (v2 : Int32) (v3 : Int32) (v4 : Int32) (v5 : Int32) (H : Heap) (locs : List Loc) (ls : Array Slot), Pw s0 s E z h H locs → lv_has ls 10 [(0, .ref v0), (1, .int v1), (2, .int v2), (3, .int v3), (4, .int v4), (5, .int v5)] → k6 h v0 v1 v2 v3 v4 v5 = some (r, h') → W p l e (rmO 3 72) s m args below meth c H locs 0 0 (Zt below s0 E z h' (some (.int r)) args s 0 0) (F0 m 6 ls [])) : ∀ (h : Hp) (v0 : Nat) (v1 : Int32) (v2 : Int32) (v3 : Int32) (v5 : Int32) (u0 : Int32) (u1 : Int32) (H : Heap) (locs : List Loc) (ls : Array Slot), Pw s0 s E z h H locs → lv_has ls 10 [(0, .ref v0), (1, .int v1), (2, .int v2), (3, .int v3), (5, .int v5)] → f_X12_talentsOf_98 n z k6 h v0 v1 v2 v3 v5 u0 u1 = some (r, h') → W p l e (rmO 3 72) s m args below meth c H locs 0 0 (Zt below s0 E z h' (some (.int r)) args s 0 0) (F0 m 98 ls [.int u0, .int u1]) := by
  have hx := B.1
  have hb := B.2.1
  intro h v0 v1 v2 v3 v5 u0 u1 H locs ls hw hl hf
  unfold f_X12_talentsOf_98 at hf
  refine lv_ior hx hb dX12_talentsOf_98 ?_
  obtain ⟨x1, e, hf⟩ := ob hf
  refine q_nmI e ?_
  refine lv_istore (lv' := [(4, .int x1), (0, .ref v0), (1, .int v1), (2, .int v2), (3, .int v3), (5, .int v5)]) hx hb dX12_talentsOf_99 hl (by decide) rfl (fun ls hl => ?_)
  obtain ⟨x2, e, hf⟩ := ob hf
  refine lv_iinc (v := x2) (lv' := [(5, .int x2), (4, .int x1), (0, .ref v0), (1, .int v1), (2, .int v2), (3, .int v3)]) hx hb dX12_talentsOf_101 hl (k := 5) rfl (Option.some.inj e) (by decide) rfl (fun ls hl => ?_)
  refine lv_goto (tgt := 6) hx hb dX12_talentsOf_104 (by decide) ?_
  exact hk6 h v0 v1 v2 v3 x1 x2 _ _ _ hw (lv_sub hl [2, 3, 4, 5, 1, 0] rfl) hf
set_option maxHeartbeats 4000000 in
theorem w_X12_talentsOf_26 {p : Program} {l : Launch} {e : Env} {s : State} {m : MethodId} {args : Array Value} {below : List Frame} {meth : Method} {c : Code} {s0 : State} {E : Ev} {z : Sh} {n : Nat} {k6 : Hp → Nat → Int32 → Int32 → Int32 → Int32 → Int32 → Option (Int32 × Hp)} {r : Int32} {h' : Hp} (G : Gl s0 E) (B : Bd p s0 s E m c cX12_talentsOf 10 RX12) (hz : s0.heap.size ≤ z.sz) (hc0 : s.heap.size + 0 = z.sz) (hr : meth.sig.returnType = (some .int)) (hlk : meth.locks = false) (hk6 : ∀ (h : Hp) (v0 : Nat) (v1 : Int32) (v2 : Int32) (v3 : Int32) (v4 : Int32) (v5 : Int32) (H : Heap) (locs : List Loc) (ls : Array Slot), Pw s0 s E z h H locs → lv_has ls 10 [(0, .ref v0), (1, .int v1), (2, .int v2), (3, .int v3), (4, .int v4), (5, .int v5)] → k6 h v0 v1 v2 v3 v4 v5 = some (r, h') → W p l e (rmO 3 72) s m args below meth c H locs 0 0 (Zt below s0 E z h' (some (.int r)) args s 0 0) (F0 m 6 ls [])) : ∀ (i : Nat), ∀ (h : Hp) (v0 : Nat) (v1 : Int32) (v2 : Int32) (v3 : Int32) (v4 : Int32) (v5 : Int32) (v6 : Int32) (v7 : Int32) (v8 : Int32) (H : Heap) (locs : List Loc) (ls : Array Slot), Pw s0 s E z h H locs → lv_has ls 10 [(0, .ref v0), (1, .int v1), (2, .int v2), (3, .int v3), (4, .int v4), (5, .int v5), (6, .int v6), (7, .int v7), (8, .int v8)] → f_X12_talentsOf_26 n z k6 i h v0 v1 v2 v3 v4 v5 v6 v7 v8 = some (r, h') → W p l e (rmO 3 72) s m args below meth c H locs 0 0 (Zt below s0 E z h' (some (.int r)) args s 0 0) (F0 m 26 ls []) := by
  have hx := B.1
  have hb := B.2.1
  intro i
  induction i with
  | zero =>
    intro h v0 v1 v2 v3 v4 v5 v6 v7 v8 H locs ls hw hl hf
    have hf := (f_X12_talentsOf_26.eq_1 ..).symm.trans hf
    cases hf
  | succ i ih =>
    intro h v0 v1 v2 v3 v4 v5 v6 v7 v8 H locs ls hw hl hf
    have hf := (f_X12_talentsOf_26.eq_2 ..).symm.trans hf
    refine lv_iload hx hb dX12_talentsOf_26 (lv_at hl 8 rfl) ?_
    refine lv_aload_n hx hb dX12_talentsOf_28 rfl (lv_at hl 0 rfl) ?_
    obtain ⟨a1, e, hf⟩ := ob hf
    refine q_getR e B hw fd_12_34.1 fd_12_34.2.1 fd_12_34.2.2.1 fd_12_34.2.2.2.1 fd_12_34.2.2.2.2 rfl tw_6_81 dX12_talentsOf_29 ?_
    refine lv_iload_n hx hb dX12_talentsOf_32 rfl (lv_at hl 1 rfl) ?_
    obtain ⟨x2, e, hf⟩ := ob hf
    refine q_ldI e B hw dX12_talentsOf_33 ?_
    refine lv_icmp_ge (tgt := 82) hx hb dX12_talentsOf_34 (by decide) (fun c3 => ?_) (fun c3 => ?_)
    · have hf := (if_pos c3).symm.trans hf
      refine lv_iload hx hb dX12_talentsOf_82 (lv_at hl 4 rfl) ?_
      refine lv_iload hx hb dX12_talentsOf_84 (lv_at hl 7 rfl) ?_
      refine lv_iload_n hx hb dX12_talentsOf_86 rfl (lv_at hl 3 rfl) ?_
      refine lv_icmp_ne (tgt := 97) hx hb dX12_talentsOf_87 (by decide) (fun c4 => ?_) (fun c4 => ?_)
      · have hf := (if_neg c4).symm.trans hf
        refine lv_iconst (v := 0) hx hb dX12_talentsOf_97 (by decide) ?_
        exact w_X12_talentsOf_98 G B hz hc0 hr hlk hk6 h v0 v1 v2 v3 v5 0 v4 _ _ _ hw (lv_sub hl [0, 1, 2, 3, 5] rfl) hf
      · have hf := (if_pos c4).symm.trans hf
        refine lv_iconst (v := 1) hx hb dX12_talentsOf_90 (by decide) ?_
        refine lv_iload hx hb dX12_talentsOf_91 (lv_at hl 5 rfl) ?_
        refine lv_ishl hx hb dX12_talentsOf_93 ?_
        refine lv_goto (tgt := 98) hx hb dX12_talentsOf_94 (by decide) ?_
        exact w_X12_talentsOf_98 G B hz hc0 hr hlk hk6 h v0 v1 v2 v3 v5 ((1 : Int32) <<< (v5 &&& 31)) v4 _ _ _ hw (lv_sub hl [0, 1, 2, 3, 5] rfl) hf
    · have hf := (if_neg c3).symm.trans hf
      refine lv_aload_n hx hb dX12_talentsOf_37 rfl (lv_at hl 0 rfl) ?_
      obtain ⟨a5, e, hf⟩ := ob hf
      refine q_getR e B hw fd_12_35.1 fd_12_35.2.1 fd_12_35.2.2.1 fd_12_35.2.2.2.1 fd_12_35.2.2.2.2 rfl tw_6_82 dX12_talentsOf_38 ?_
      refine lv_bipush (v := 40) hx hb dX12_talentsOf_41 (by decide) ?_
      refine lv_iload_n hx hb dX12_talentsOf_43 rfl (lv_at hl 1 rfl) ?_
      refine lv_imul hx hb dX12_talentsOf_44 ?_
      refine lv_iload hx hb dX12_talentsOf_45 (lv_at hl 8 rfl) ?_
      refine lv_iadd hx hb dX12_talentsOf_47 ?_
      obtain ⟨x6, e, hf⟩ := ob hf
      refine q_ldJ e B hw dX12_talentsOf_48 ?_
      refine lv_l2i (v := (Int64.toInt32 x6)) hx hb dX12_talentsOf_49 rfl ?_
      obtain ⟨x7, e, hf⟩ := ob hf
      refine q_nmI e ?_
      refine lv_istore (lv' := [(9, .int x7), (0, .ref v0), (1, .int v1), (2, .int v2), (3, .int v3), (4, .int v4), (5, .int v5), (6, .int v6), (7, .int v7), (8, .int v8)]) hx hb dX12_talentsOf_50 hl (by decide) rfl (fun ls hl => ?_)
      refine lv_iload hx hb dX12_talentsOf_52 (lv_at hl 8 rfl) ?_
      refine lv_aload_n hx hb dX12_talentsOf_54 rfl (lv_at hl 1 rfl) ?_
      refine lv_iload hx hb dX12_talentsOf_55 (lv_at hl 6 rfl) ?_
      refine lv_iload hx hb dX12_talentsOf_57 (lv_at hl 7 rfl) ?_
      refine lv_iload hx hb dX12_talentsOf_59 (lv_at hl 0 rfl) ?_
      obtain ⟨⟨x8, h9⟩, e, hf⟩ := ob hf
      refine q_callV (As := [.int v5, .int v6, .int x7]) (rest := [.int v7]) (st1 := [.int x8, .int v7]) (c_X12_worthOf G e) B hw hz hc0 (k_X12_worthOf e) (by decide) (ci := 12) rfl rfl my_X12_worthOf mv_X12_worthOf tw_7_66 ⟨Nat.le_of_ble_eq_true rfl, Nat.le_of_ble_eq_true rfl⟩ ⟨Nat.zero_le _, Nat.zero_le _⟩ rfl hl.1 rfl rfl (Nat.le_of_ble_eq_true rfl) dX12_talentsOf_61 (fun H locs hw => ?_)
      refine lv_iadd hx hb dX12_talentsOf_64 ?_
      obtain ⟨x10, e, hf⟩ := ob hf
      refine q_nmI e ?_
      refine lv_istore (lv' := [(7, .int x10), (9, .int x7), (0, .ref v0), (1, .int v1), (2, .int v2), (3, .int v3), (4, .int v4), (5, .int v5), (6, .int v6), (8, .int v8)]) hx hb dX12_talentsOf_65 hl (by decide) rfl (fun ls hl => ?_)
      refine lv_iload hx hb dX12_talentsOf_67 (lv_at hl 8 rfl) ?_
      refine lv_iload hx hb dX12_talentsOf_69 (lv_at hl 1 rfl) ?_
      obtain ⟨x11, e, hf⟩ := ob hf
      refine q_callS (As := [.int v6, .int x7]) (rest := []) (st1 := [.int x11]) (c_X12_livedTo G e) B hw hz hc0 my_X12_livedTo mv_X12_livedTo tw_7_116 ⟨Nat.le_of_ble_eq_true rfl, Nat.le_of_ble_eq_true rfl⟩ ⟨Nat.zero_le _, Nat.zero_le _⟩ rfl hl.1 rfl rfl (Nat.le_of_ble_eq_true rfl) dX12_talentsOf_71 (fun H locs hw => ?_)
      refine lv_istore (lv' := [(6, .int x11), (7, .int x10), (9, .int x7), (0, .ref v0), (1, .int v1), (2, .int v2), (3, .int v3), (4, .int v4), (5, .int v5), (8, .int v8)]) hx hb dX12_talentsOf_74 hl (by decide) rfl (fun ls hl => ?_)
      obtain ⟨x12, e, hf⟩ := ob hf
      refine lv_iinc (v := x12) (lv' := [(8, .int x12), (6, .int x11), (7, .int x10), (9, .int x7), (0, .ref v0), (1, .int v1), (2, .int v2), (3, .int v3), (4, .int v4), (5, .int v5)]) hx hb dX12_talentsOf_76 hl (k := 9) rfl (Option.some.inj e) (by decide) rfl (fun ls hl => ?_)
      refine lv_goto (tgt := 26) hx hb dX12_talentsOf_79 (by decide) ?_
      exact ih h9 v0 v1 v2 v3 v4 v5 x11 x10 x12 _ _ _ hw (lv_sub hl [4, 5, 6, 7, 8, 9, 1, 2, 0] rfl) hf
set_option maxHeartbeats 4000000 in
theorem w_X12_talentsOf_6 {p : Program} {l : Launch} {e : Env} {s : State} {m : MethodId} {args : Array Value} {below : List Frame} {meth : Method} {c : Code} {s0 : State} {E : Ev} {z : Sh} {n : Nat} {r : Int32} {h' : Hp} (G : Gl s0 E) (B : Bd p s0 s E m c cX12_talentsOf 10 RX12) (hz : s0.heap.size ≤ z.sz) (hc0 : s.heap.size + 0 = z.sz) (hr : meth.sig.returnType = (some .int)) (hlk : meth.locks = false) : ∀ (i : Nat), ∀ (h : Hp) (v0 : Nat) (v1 : Int32) (v2 : Int32) (v3 : Int32) (v4 : Int32) (v5 : Int32) (H : Heap) (locs : List Loc) (ls : Array Slot), Pw s0 s E z h H locs → lv_has ls 10 [(0, .ref v0), (1, .int v1), (2, .int v2), (3, .int v3), (4, .int v4), (5, .int v5)] → f_X12_talentsOf_6 n z i h v0 v1 v2 v3 v4 v5 = some (r, h') → W p l e (rmO 3 72) s m args below meth c H locs 0 0 (Zt below s0 E z h' (some (.int r)) args s 0 0) (F0 m 6 ls []) := by
  have hx := B.1
  have hb := B.2.1
  intro i
  induction i with
  | zero =>
    intro h v0 v1 v2 v3 v4 v5 H locs ls hw hl hf
    have hf := (f_X12_talentsOf_6.eq_1 ..).symm.trans hf
    cases hf
  | succ i ih =>
    intro h v0 v1 v2 v3 v4 v5 H locs ls hw hl hf
    have hf := (f_X12_talentsOf_6.eq_2 ..).symm.trans hf
    refine lv_iload hx hb dX12_talentsOf_6 (lv_at hl 5 rfl) ?_
    refine lv_bipush (v := 10) hx hb dX12_talentsOf_8 (by decide) ?_
    refine lv_icmp_ge (tgt := 107) hx hb dX12_talentsOf_10 (by decide) (fun c1 => ?_) (fun c1 => ?_)
    · have hf := (if_pos c1).symm.trans hf
      refine lv_iload hx hb dX12_talentsOf_107 (lv_at hl 4 rfl) ?_
      obtain ⟨rfl, rfl⟩ := so2 hf
      exact q_iret B hw hz hc0 hr hlk dX12_talentsOf_109
    · have hf := (if_neg c1).symm.trans hf
      refine lv_aload_n hx hb dX12_talentsOf_13 rfl (lv_at hl 0 rfl) ?_
      refine lv_iload_n hx hb dX12_talentsOf_14 rfl (lv_at hl 2 rfl) ?_
      obtain ⟨x2, e, hf⟩ := ob hf
      refine q_callV (As := [.int v2]) (rest := []) (st1 := [.int x2]) (c_X12_standNow G e) B hw hz hc0 (k_X12_standNow e) (by decide) (ci := 12) rfl rfl my_X12_standNow mv_X12_standNow tw_7_52 ⟨Nat.le_of_ble_eq_true rfl, Nat.le_of_ble_eq_true rfl⟩ ⟨Nat.zero_le _, Nat.zero_le _⟩ rfl hl.1 rfl rfl (Nat.le_of_ble_eq_true rfl) dX12_talentsOf_15 (fun H locs hw => ?_)
      refine lv_istore (lv' := [(6, .int x2), (0, .ref v0), (1, .int v1), (2, .int v2), (3, .int v3), (4, .int v4), (5, .int v5)]) hx hb dX12_talentsOf_18 hl (by decide) rfl (fun ls hl => ?_)
      refine lv_iconst (v := 0) hx hb dX12_talentsOf_20 (by decide) ?_
      refine lv_istore (lv' := [(7, .int 0), (6, .int x2), (0, .ref v0), (1, .int v1), (2, .int v2), (3, .int v3), (4, .int v4), (5, .int v5)]) hx hb dX12_talentsOf_21 hl (by decide) rfl (fun ls hl => ?_)
      refine lv_iconst (v := 0) hx hb dX12_talentsOf_23 (by decide) ?_
      refine lv_istore (lv' := [(8, .int 0), (7, .int 0), (6, .int x2), (0, .ref v0), (1, .int v1), (2, .int v2), (3, .int v3), (4, .int v4), (5, .int v5)]) hx hb dX12_talentsOf_24 hl (by decide) rfl (fun ls hl => ?_)
      exact w_X12_talentsOf_26 G B hz hc0 hr hlk ih n h v0 v1 v2 v3 v4 v5 x2 0 0 _ _ _ hw (lv_sub hl [3, 4, 5, 6, 7, 8, 2, 1, 0] rfl) hf
set_option maxHeartbeats 4000000 in
theorem c_X12_talentsOf {l : Launch} {s0 : State} {E : Ev} (G : Gl s0 E) {n : Nat} {z : Sh} {h : Hp} {v0 : Nat} {v1 : Int32} {v2 : Int32} {v3 : Int32} {r : Int32} {h' : Hp} (hf : f_X12_talentsOf n z h v0 v1 v2 v3 = some (r, h')) : Ct l s0 E yX12_talentsOf cX12_talentsOf 10 (some .int) 3 72 [.ref v0, .int v1, .int v2, .int v3] z h h' (some (.int r)) := by
  refine Ct.of G (by decide) (Nat.le_of_ble_eq_true rfl) ?_
  intro p e s m below meth c ls B hw hz hc0 hr hlk hl
  have B : Bd p s0 s E m c cX12_talentsOf 10 RX12 := B
  have hx := B.1
  have hb := B.2.1
  have hl : lv_has ls 10 [(0, .ref v0), (1, .int v1), (2, .int v2), (3, .int v3)] := hl
  unfold f_X12_talentsOf at hf
  obtain ⟨_, hf⟩ := if_some hf
  refine lv_iconst (v := 0) hx hb dX12_talentsOf_0 (by decide) ?_
  refine lv_istore (lv' := [(4, .int 0), (0, .ref v0), (1, .int v1), (2, .int v2), (3, .int v3)]) hx hb dX12_talentsOf_1 hl (by decide) rfl (fun ls hl => ?_)
  refine lv_iconst (v := 0) hx hb dX12_talentsOf_3 (by decide) ?_
  refine lv_istore (lv' := [(5, .int 0), (4, .int 0), (0, .ref v0), (1, .int v1), (2, .int v2), (3, .int v3)]) hx hb dX12_talentsOf_4 hl (by decide) rfl (fun ls hl => ?_)
  exact w_X12_talentsOf_6 G B hz hc0 hr hlk  n h v0 v1 v2 v3 0 0 _ _ _ hw (lv_sub hl [2, 3, 4, 5, 1, 0] rfl) hf
/-! SecondLifeModel.talents(III)I -/
def f_X12_talents (n : Nat) (z : Sh) (h : Hp) (v0 : Nat) (v1 : Int32) (v2 : Int32) (v3 : Int32) : Option (Int32 × Hp) :=
  if z.K v0 = 12 then
    (pI z h 12 v0 0 0).bind fun h1 =>
    (f_X12_noLived n z h1 v0 v1 v2).bind fun x2 =>
    if x2 = 0 then
      (f_X12_talentsOf n z h1 v0 v1 v2 v3).bind fun (x4, h5) =>
      some (x4, h5)
    else
      some (x2, h1)
  else none
theorem k_X12_talents {n : Nat} {z : Sh} {h : Hp} {v0 : Nat} {v1 : Int32} {v2 : Int32} {v3 : Int32} {w : Int32 × Hp} (hf : f_X12_talents n z h v0 v1 v2 v3 = some w) : z.K v0 = 12 := by
  unfold f_X12_talents at hf
  exact (if_some hf).1
set_option maxHeartbeats 4000000 in
theorem c_X12_talents {l : Launch} {s0 : State} {E : Ev} (G : Gl s0 E) {n : Nat} {z : Sh} {h : Hp} {v0 : Nat} {v1 : Int32} {v2 : Int32} {v3 : Int32} {r : Int32} {h' : Hp} (hf : f_X12_talents n z h v0 v1 v2 v3 = some (r, h')) : Ct l s0 E yX12_talents cX12_talents 5 (some .int) 4 101 [.ref v0, .int v1, .int v2, .int v3] z h h' (some (.int r)) := by
  refine Ct.of G (by decide) (Nat.le_of_ble_eq_true rfl) ?_
  intro p e s m below meth c ls B hw hz hc0 hr hlk hl
  have B : Bd p s0 s E m c cX12_talents 5 RX12 := B
  have hx := B.1
  have hb := B.2.1
  have hl : lv_has ls 5 [(0, .ref v0), (1, .int v1), (2, .int v2), (3, .int v3)] := hl
  unfold f_X12_talents at hf
  obtain ⟨_, hf⟩ := if_some hf
  refine lv_aload_n hx hb dX12_talents_0 rfl (lv_at hl 0 rfl) ?_
  refine lv_iconst (v := 0) hx hb dX12_talents_1 (by decide) ?_
  obtain ⟨h1, e, hf⟩ := ob hf
  refine q_putI e B hw fd_12_0.1 fd_12_0.2.1 fd_12_0.2.2.1 fd_12_0.2.2.2.1 fd_12_0.2.2.2.2 rfl rfl (tyX12_ok 0 (by decide)) tyX12 tyX12_ok nmX12 tw_6_47 dX12_talents_2 (fun H locs hw => ?_)
  refine lv_aload_n hx hb dX12_talents_5 rfl (lv_at hl 0 rfl) ?_
  refine lv_iload_n hx hb dX12_talents_6 rfl (lv_at hl 1 rfl) ?_
  refine lv_iload_n hx hb dX12_talents_7 rfl (lv_at hl 2 rfl) ?_
  obtain ⟨x2, e, hf⟩ := ob hf
  refine q_callV (As := [.int v1, .int v2]) (rest := []) (st1 := [.int x2]) (c_X12_noLived G e) B hw hz hc0 (k_X12_noLived e) (by decide) (ci := 12) rfl rfl my_X12_noLived mv_X12_noLived tw_8_117 ⟨Nat.le_of_ble_eq_true rfl, Nat.le_of_ble_eq_true rfl⟩ ⟨Nat.zero_le _, Nat.zero_le _⟩ rfl hl.1 rfl rfl (Nat.le_of_ble_eq_true rfl) dX12_talents_8 (fun H locs hw => ?_)
  refine lv_istore (lv' := [(4, .int x2), (0, .ref v0), (1, .int v1), (2, .int v2), (3, .int v3)]) hx hb dX12_talents_11 hl (by decide) rfl (fun ls hl => ?_)
  refine lv_iload hx hb dX12_talents_13 (lv_at hl 0 rfl) ?_
  refine lv_if_eq (tgt := 23) hx hb dX12_talents_15 (by decide) (fun c3 => ?_) (fun c3 => ?_)
  · have hf := (if_pos c3).symm.trans hf
    refine lv_aload_n hx hb dX12_talents_23 rfl (lv_at hl 1 rfl) ?_
    refine lv_iload_n hx hb dX12_talents_24 rfl (lv_at hl 2 rfl) ?_
    refine lv_iload_n hx hb dX12_talents_25 rfl (lv_at hl 3 rfl) ?_
    refine lv_iload_n hx hb dX12_talents_26 rfl (lv_at hl 4 rfl) ?_
    obtain ⟨⟨x4, h5⟩, e, hf⟩ := ob hf
    refine q_callV (As := [.int v1, .int v2, .int v3]) (rest := []) (st1 := [.int x4]) (c_X12_talentsOf G e) B hw hz hc0 (k_X12_talentsOf e) (by decide) (ci := 12) rfl rfl my_X12_talentsOf mv_X12_talentsOf tw_8_123 ⟨Nat.le_of_ble_eq_true rfl, Nat.le_of_ble_eq_true rfl⟩ ⟨Nat.zero_le _, Nat.zero_le _⟩ rfl hl.1 rfl rfl (Nat.le_of_ble_eq_true rfl) dX12_talents_27 (fun H locs hw => ?_)
    obtain ⟨rfl, rfl⟩ := so2 hf
    exact q_iret B hw hz hc0 hr hlk dX12_talents_30
  · have hf := (if_neg c3).symm.trans hf
    refine lv_iload hx hb dX12_talents_18 (lv_at hl 0 rfl) ?_
    refine lv_goto (tgt := 30) hx hb dX12_talents_20 (by decide) ?_
    obtain ⟨rfl, rfl⟩ := so2 hf
    exact q_iret B hw hz hc0 hr hlk dX12_talents_30
/-! SecondLifeModel.mostOften(III)I -/
def f_X12_mostOften_104 (n : Nat) (z : Sh) (k30 : Hp → Nat → Int32 → Int32 → Int32 → Int32 → Int32 → Option (Int32 × Hp)) (h : Hp) (v0 : Nat) (v1 : Int32) (v2 : Int32) (v3 : Int32) (v4 : Int32) (v5 : Int32) : Option (Int32 × Hp) :=
  (some (v5 + 1)).bind fun x1 =>
  k30 h v0 v1 v2 v3 v4 x1
def f_X12_mostOften_102 (n : Nat) (z : Sh) (k30 : Hp → Nat → Int32 → Int32 → Int32 → Int32 → Int32 → Option (Int32 × Hp)) (h : Hp) (v0 : Nat) (v1 : Int32) (v2 : Int32) (v3 : Int32) (v5 : Int32) (u0 : Int32) : Option (Int32 × Hp) :=
  f_X12_mostOften_104 n z k30 h v0 v1 v2 v3 u0 v5
def f_X12_mostOften_30 (n : Nat) (z : Sh) : Nat → Hp → Nat → Int32 → Int32 → Int32 → Int32 → Int32 → Option (Int32 × Hp)
  | 0, _, _, _, _, _, _, _ => none
  | i + 1, h, v0, v1, v2, v3, v4, v5 =>
    if 10 ≤ v5 then
      some (v4, h)
    else
      (f_X12_isIn z h (Int32.toInt64 v3) v5).bind fun x2 =>
      if x2 = 0 then
        f_X12_mostOften_104 n z (f_X12_mostOften_30 n z i) h v0 v1 v2 v3 v4 v5
      else
        (f_X12_standNow z h v0 v1).bind fun x4 =>
        (f_X12_worthOf n z h v0 v5 x4 v2).bind fun (x5, h6) =>
        (some (9 + x5)).bind fun x7 =>
        (gR z h6 12 v0 31).bind fun a8 =>
        (ldI z h6 a8 x7).bind fun x9 =>
        (stI z h6 a8 x7 (x9 + 1)).bind fun h10 =>
        (gR z h10 12 v0 31).bind fun a11 =>
        (ldI z h10 a11 x7).bind fun x12 =>
        if x12 ≤ v4 then
          f_X12_mostOften_102 n z (f_X12_mostOften_30 n z i) h10 v0 v1 v2 v3 v5 v4
        else
          (gR z h10 12 v0 31).bind fun a14 =>
          (ldI z h10 a14 x7).bind fun x15 =>
          f_X12_mostOften_102 n z (f_X12_mostOften_30 n z i) h10 v0 v1 v2 v3 v5 x15
def f_X12_mostOften_6 (n : Nat) (z : Sh) : Nat → Hp → Nat → Int32 → Int32 → Int32 → Int32 → Int32 → Option (Int32 × Hp)
  | 0, _, _, _, _, _, _, _ => none
  | i + 1, h, v0, v1, v2, v3, v4, v5 =>
    if 19 ≤ v5 then
      f_X12_mostOften_30 n z n h v0 v1 v2 v3 v4 0
    else
      (gR z h 12 v0 31).bind fun a2 =>
      (stI z h a2 v5 0).bind fun h3 =>
      (some (v5 + 1)).bind fun x4 =>
      (f_X12_mostOften_6 n z i) h3 v0 v1 v2 v3 v4 x4
def f_X12_mostOften (n : Nat) (z : Sh) (h : Hp) (v0 : Nat) (v1 : Int32) (v2 : Int32) (v3 : Int32) : Option (Int32 × Hp) :=
  if z.K v0 = 12 then
    f_X12_mostOften_6 n z n h v0 v1 v2 v3 0 0
  else none
theorem k_X12_mostOften {n : Nat} {z : Sh} {h : Hp} {v0 : Nat} {v1 : Int32} {v2 : Int32} {v3 : Int32} {w : Int32 × Hp} (hf : f_X12_mostOften n z h v0 v1 v2 v3 = some w) : z.K v0 = 12 := by
  unfold f_X12_mostOften at hf
  exact (if_some hf).1
set_option maxHeartbeats 4000000 in
theorem w_X12_mostOften_104 {p : Program} {l : Launch} {e : Env} {s : State} {m : MethodId} {args : Array Value} {below : List Frame} {meth : Method} {c : Code} {s0 : State} {E : Ev} {z : Sh} {n : Nat} {k30 : Hp → Nat → Int32 → Int32 → Int32 → Int32 → Int32 → Option (Int32 × Hp)} {r : Int32} {h' : Hp} (G : Gl s0 E) (B : Bd p s0 s E m c cX12_mostOften 7 RX12) (hz : s0.heap.size ≤ z.sz) (hc0 : s.heap.size + 0 = z.sz) (hr : meth.sig.returnType = (some .int)) (hlk : meth.locks = false) (hk30 : ∀ (h : Hp) (v0 : Nat) (v1 : Int32) (v2 : Int32) (v3 : Int32) (v4 : Int32) (v5 : Int32) (H : Heap) (locs : List Loc) (ls : Array Slot), Pw s0 s E z h H locs → lv_has ls 7 [(0, .ref v0), (1, .int v1), (2, .int v2), (3, .int v3), (4, .int v4), (5, .int v5)] → k30 h v0 v1 v2 v3 v4 v5 = some (r, h') → W p l e (rmO 3 72) s m args below meth c H locs 0 0 (Zt below s0 E z h' (some (.int r)) args s 0 0) (F0 m 30 ls [])) : ∀ (h : Hp) (v0 : Nat) (v1 : Int32) (v2 : Int32) (v3 : Int32) (v4 : Int32) (v5 : Int32) (H : Heap) (locs : List Loc) (ls : Array Slot), Pw s0 s E z h H locs → lv_has ls 7 [(0, .ref v0), (1, .int v1), (2, .int v2), (3, .int v3), (4, .int v4), (5, .int v5)] → f_X12_mostOften_104 n z k30 h v0 v1 v2 v3 v4 v5 = some (r, h') → W p l e (rmO 3 72) s m args below meth c H locs 0 0 (Zt below s0 E z h' (some (.int r)) args s 0 0) (F0 m 104 ls []) := by
  have hx := B.1
  have hb := B.2.1
  intro h v0 v1 v2 v3 v4 v5 H locs ls hw hl hf
  unfold f_X12_mostOften_104 at hf
  obtain ⟨x1, e, hf⟩ := ob hf
  refine lv_iinc (v := x1) (lv' := [(5, .int x1), (0, .ref v0), (1, .int v1), (2, .int v2), (3, .int v3), (4, .int v4)]) hx hb dX12_mostOften_104 hl (k := 5) rfl (Option.some.inj e) (by decide) rfl (fun ls hl => ?_)
  refine lv_goto (tgt := 30) hx hb dX12_mostOften_107 (by decide) ?_
  exact hk30 h v0 v1 v2 v3 v4 x1 _ _ _ hw (lv_sub hl [1, 2, 3, 4, 5, 0] rfl) hf
set_option maxHeartbeats 4000000 in
theorem w_X12_mostOften_102 {p : Program} {l : Launch} {e : Env} {s : State} {m : MethodId} {args : Array Value} {below : List Frame} {meth : Method} {c : Code} {s0 : State} {E : Ev} {z : Sh} {n : Nat} {k30 : Hp → Nat → Int32 → Int32 → Int32 → Int32 → Int32 → Option (Int32 × Hp)} {r : Int32} {h' : Hp} (G : Gl s0 E) (B : Bd p s0 s E m c cX12_mostOften 7 RX12) (hz : s0.heap.size ≤ z.sz) (hc0 : s.heap.size + 0 = z.sz) (hr : meth.sig.returnType = (some .int)) (hlk : meth.locks = false) (hk30 : ∀ (h : Hp) (v0 : Nat) (v1 : Int32) (v2 : Int32) (v3 : Int32) (v4 : Int32) (v5 : Int32) (H : Heap) (locs : List Loc) (ls : Array Slot), Pw s0 s E z h H locs → lv_has ls 7 [(0, .ref v0), (1, .int v1), (2, .int v2), (3, .int v3), (4, .int v4), (5, .int v5)] → k30 h v0 v1 v2 v3 v4 v5 = some (r, h') → W p l e (rmO 3 72) s m args below meth c H locs 0 0 (Zt below s0 E z h' (some (.int r)) args s 0 0) (F0 m 30 ls [])) : ∀ (h : Hp) (v0 : Nat) (v1 : Int32) (v2 : Int32) (v3 : Int32) (v5 : Int32) (u0 : Int32) (H : Heap) (locs : List Loc) (ls : Array Slot), Pw s0 s E z h H locs → lv_has ls 7 [(0, .ref v0), (1, .int v1), (2, .int v2), (3, .int v3), (5, .int v5)] → f_X12_mostOften_102 n z k30 h v0 v1 v2 v3 v5 u0 = some (r, h') → W p l e (rmO 3 72) s m args below meth c H locs 0 0 (Zt below s0 E z h' (some (.int r)) args s 0 0) (F0 m 102 ls [.int u0]) := by
  have hx := B.1
  have hb := B.2.1
  intro h v0 v1 v2 v3 v5 u0 H locs ls hw hl hf
  unfold f_X12_mostOften_102 at hf
  refine lv_istore (lv' := [(4, .int u0), (0, .ref v0), (1, .int v1), (2, .int v2), (3, .int v3), (5, .int v5)]) hx hb dX12_mostOften_102 hl (by decide) rfl (fun ls hl => ?_)
  exact w_X12_mostOften_104 G B hz hc0 hr hlk hk30 h v0 v1 v2 v3 u0 v5 _ _ _ hw (lv_sub hl [1, 2, 3, 4, 0, 5] rfl) hf
set_option maxHeartbeats 4000000 in
theorem w_X12_mostOften_30 {p : Program} {l : Launch} {e : Env} {s : State} {m : MethodId} {args : Array Value} {below : List Frame} {meth : Method} {c : Code} {s0 : State} {E : Ev} {z : Sh} {n : Nat} {r : Int32} {h' : Hp} (G : Gl s0 E) (B : Bd p s0 s E m c cX12_mostOften 7 RX12) (hz : s0.heap.size ≤ z.sz) (hc0 : s.heap.size + 0 = z.sz) (hr : meth.sig.returnType = (some .int)) (hlk : meth.locks = false) : ∀ (i : Nat), ∀ (h : Hp) (v0 : Nat) (v1 : Int32) (v2 : Int32) (v3 : Int32) (v4 : Int32) (v5 : Int32) (H : Heap) (locs : List Loc) (ls : Array Slot), Pw s0 s E z h H locs → lv_has ls 7 [(0, .ref v0), (1, .int v1), (2, .int v2), (3, .int v3), (4, .int v4), (5, .int v5)] → f_X12_mostOften_30 n z i h v0 v1 v2 v3 v4 v5 = some (r, h') → W p l e (rmO 3 72) s m args below meth c H locs 0 0 (Zt below s0 E z h' (some (.int r)) args s 0 0) (F0 m 30 ls []) := by
  have hx := B.1
  have hb := B.2.1
  intro i
  induction i with
  | zero =>
    intro h v0 v1 v2 v3 v4 v5 H locs ls hw hl hf
    have hf := (f_X12_mostOften_30.eq_1 ..).symm.trans hf
    cases hf
  | succ i ih =>
    intro h v0 v1 v2 v3 v4 v5 H locs ls hw hl hf
    have hf := (f_X12_mostOften_30.eq_2 ..).symm.trans hf
    refine lv_iload hx hb dX12_mostOften_30 (lv_at hl 5 rfl) ?_
    refine lv_bipush (v := 10) hx hb dX12_mostOften_32 (by decide) ?_
    refine lv_icmp_ge (tgt := 110) hx hb dX12_mostOften_34 (by decide) (fun c1 => ?_) (fun c1 => ?_)
    · have hf := (if_pos c1).symm.trans hf
      refine lv_iload hx hb dX12_mostOften_110 (lv_at hl 4 rfl) ?_
      obtain ⟨rfl, rfl⟩ := so2 hf
      exact q_iret B hw hz hc0 hr hlk dX12_mostOften_112
    · have hf := (if_neg c1).symm.trans hf
      refine lv_iload_n hx hb dX12_mostOften_37 rfl (lv_at hl 3 rfl) ?_
      refine lv_i2l (v := (Int32.toInt64 v3)) hx hb dX12_mostOften_38 rfl ?_
      refine lv_iload hx hb dX12_mostOften_39 (lv_at hl 5 rfl) ?_
      obtain ⟨x2, e, hf⟩ := ob hf
      refine q_callS (As := [.long (Int32.toInt64 v3), .int v5]) (rest := []) (st1 := [.int x2]) (c_X12_isIn G e) B hw hz hc0 my_X12_isIn mv_X12_isIn tw_8_135 ⟨Nat.le_of_ble_eq_true rfl, Nat.le_of_ble_eq_true rfl⟩ ⟨Nat.zero_le _, Nat.zero_le _⟩ rfl hl.1 rfl rfl (Nat.le_of_ble_eq_true rfl) dX12_mostOften_41 (fun H locs hw => ?_)
      refine lv_if_ne (tgt := 50) hx hb dX12_mostOften_44 (by decide) (fun c3 => ?_) (fun c3 => ?_)
      · have hf := (if_neg c3).symm.trans hf
        refine lv_bipush (v := 9) hx hb dX12_mostOften_50 (by decide) ?_
        refine lv_aload_n hx hb dX12_mostOften_52 rfl (lv_at hl 0 rfl) ?_
        refine lv_iload hx hb dX12_mostOften_53 (lv_at hl 5 rfl) ?_
        refine lv_aload_n hx hb dX12_mostOften_55 rfl (lv_at hl 0 rfl) ?_
        refine lv_iload_n hx hb dX12_mostOften_56 rfl (lv_at hl 1 rfl) ?_
        obtain ⟨x4, e, hf⟩ := ob hf
        refine q_callV (As := [.int v1]) (rest := [.int v5, .ref v0, .int 9]) (st1 := [.int x4, .int v5, .ref v0, .int 9]) (c_X12_standNow G e) B hw hz hc0 (k_X12_standNow e) (by decide) (ci := 12) rfl rfl my_X12_standNow mv_X12_standNow tw_7_52 ⟨Nat.le_of_ble_eq_true rfl, Nat.le_of_ble_eq_true rfl⟩ ⟨Nat.zero_le _, Nat.zero_le _⟩ rfl hl.1 rfl rfl (Nat.le_of_ble_eq_true rfl) dX12_mostOften_57 (fun H locs hw => ?_)
        refine lv_iload_n hx hb dX12_mostOften_60 rfl (lv_at hl 2 rfl) ?_
        obtain ⟨⟨x5, h6⟩, e, hf⟩ := ob hf
        refine q_callV (As := [.int v5, .int x4, .int v2]) (rest := [.int 9]) (st1 := [.int x5, .int 9]) (c_X12_worthOf G e) B hw hz hc0 (k_X12_worthOf e) (by decide) (ci := 12) rfl rfl my_X12_worthOf mv_X12_worthOf tw_7_66 ⟨Nat.le_of_ble_eq_true rfl, Nat.le_of_ble_eq_true rfl⟩ ⟨Nat.zero_le _, Nat.zero_le _⟩ rfl hl.1 rfl rfl (Nat.le_of_ble_eq_true rfl) dX12_mostOften_61 (fun H locs hw => ?_)
        refine lv_iadd hx hb dX12_mostOften_64 ?_
        obtain ⟨x7, e, hf⟩ := ob hf
        refine q_nmI e ?_
        refine lv_istore (lv' := [(6, .int x7), (0, .ref v0), (1, .int v1), (2, .int v2), (3, .int v3), (4, .int v4), (5, .int v5)]) hx hb dX12_mostOften_65 hl (by decide) rfl (fun ls hl => ?_)
        refine lv_aload_n hx hb dX12_mostOften_67 rfl (lv_at hl 1 rfl) ?_
        obtain ⟨a8, e, hf⟩ := ob hf
        refine q_getR e B hw fd_12_31.1 fd_12_31.2.1 fd_12_31.2.2.1 fd_12_31.2.2.2.1 fd_12_31.2.2.2.2 rfl tw_6_78 dX12_mostOften_68 ?_
        refine lv_iload hx hb dX12_mostOften_71 (lv_at hl 0 rfl) ?_
        refine lv_dup2_11 hx hb dX12_mostOften_73 rfl rfl ?_
        obtain ⟨x9, e, hf⟩ := ob hf
        refine q_ldI e B hw dX12_mostOften_74 ?_
        refine lv_iconst (v := 1) hx hb dX12_mostOften_75 (by decide) ?_
        refine lv_iadd hx hb dX12_mostOften_76 ?_
        obtain ⟨h10, e, hf⟩ := ob hf
        refine q_stI e B hw dX12_mostOften_77 (fun H locs hw => ?_)
        refine lv_aload_n hx hb dX12_mostOften_78 rfl (lv_at hl 1 rfl) ?_
        obtain ⟨a11, e, hf⟩ := ob hf
        refine q_getR e B hw fd_12_31.1 fd_12_31.2.1 fd_12_31.2.2.1 fd_12_31.2.2.2.1 fd_12_31.2.2.2.2 rfl tw_6_78 dX12_mostOften_79 ?_
        refine lv_iload hx hb dX12_mostOften_82 (lv_at hl 0 rfl) ?_
        obtain ⟨x12, e, hf⟩ := ob hf
        refine q_ldI e B hw dX12_mostOften_84 ?_
        refine lv_iload hx hb dX12_mostOften_85 (lv_at hl 5 rfl) ?_
        refine lv_icmp_le (tgt := 100) hx hb dX12_mostOften_87 (by decide) (fun c13 => ?_) (fun c13 => ?_)
        · have hf := (if_pos c13).symm.trans hf
          refine lv_iload hx hb dX12_mostOften_100 (lv_at hl 5 rfl) ?_
          exact w_X12_mostOften_102 G B hz hc0 hr hlk ih h10 v0 v1 v2 v3 v5 v4 _ _ _ hw (lv_sub hl [1, 2, 3, 4, 6] rfl) hf
        · have hf := (if_neg c13).symm.trans hf
          refine lv_aload_n hx hb dX12_mostOften_90 rfl (lv_at hl 1 rfl) ?_
          obtain ⟨a14, e, hf⟩ := ob hf
          refine q_getR e B hw fd_12_31.1 fd_12_31.2.1 fd_12_31.2.2.1 fd_12_31.2.2.2.1 fd_12_31.2.2.2.2 rfl tw_6_78 dX12_mostOften_91 ?_
          refine lv_iload hx hb dX12_mostOften_94 (lv_at hl 0 rfl) ?_
          obtain ⟨x15, e, hf⟩ := ob hf
          refine q_ldI e B hw dX12_mostOften_96 ?_
          refine lv_goto (tgt := 102) hx hb dX12_mostOften_97 (by decide) ?_
          exact w_X12_mostOften_102 G B hz hc0 hr hlk ih h10 v0 v1 v2 v3 v5 x15 _ _ _ hw (lv_sub hl [1, 2, 3, 4, 6] rfl) hf
      · have hf := (if_pos c3).symm.trans hf
        refine lv_goto (tgt := 104) hx hb dX12_mostOften_47 (by decide) ?_
        exact w_X12_mostOften_104 G B hz hc0 hr hlk ih h v0 v1 v2 v3 v4 v5 _ _ _ hw (lv_sub hl [0, 1, 2, 3, 4, 5] rfl) hf
set_option maxHeartbeats 4000000 in
theorem w_X12_mostOften_6 {p : Program} {l : Launch} {e : Env} {s : State} {m : MethodId} {args : Array Value} {below : List Frame} {meth : Method} {c : Code} {s0 : State} {E : Ev} {z : Sh} {n : Nat} {r : Int32} {h' : Hp} (G : Gl s0 E) (B : Bd p s0 s E m c cX12_mostOften 7 RX12) (hz : s0.heap.size ≤ z.sz) (hc0 : s.heap.size + 0 = z.sz) (hr : meth.sig.returnType = (some .int)) (hlk : meth.locks = false) : ∀ (i : Nat), ∀ (h : Hp) (v0 : Nat) (v1 : Int32) (v2 : Int32) (v3 : Int32) (v4 : Int32) (v5 : Int32) (H : Heap) (locs : List Loc) (ls : Array Slot), Pw s0 s E z h H locs → lv_has ls 7 [(0, .ref v0), (1, .int v1), (2, .int v2), (3, .int v3), (4, .int v4), (5, .int v5)] → f_X12_mostOften_6 n z i h v0 v1 v2 v3 v4 v5 = some (r, h') → W p l e (rmO 3 72) s m args below meth c H locs 0 0 (Zt below s0 E z h' (some (.int r)) args s 0 0) (F0 m 6 ls []) := by
  have hx := B.1
  have hb := B.2.1
  intro i
  induction i with
  | zero =>
    intro h v0 v1 v2 v3 v4 v5 H locs ls hw hl hf
    have hf := (f_X12_mostOften_6.eq_1 ..).symm.trans hf
    cases hf
  | succ i ih =>
    intro h v0 v1 v2 v3 v4 v5 H locs ls hw hl hf
    have hf := (f_X12_mostOften_6.eq_2 ..).symm.trans hf
    refine lv_iload hx hb dX12_mostOften_6 (lv_at hl 5 rfl) ?_
    refine lv_bipush (v := 19) hx hb dX12_mostOften_8 (by decide) ?_
    refine lv_icmp_ge (tgt := 27) hx hb dX12_mostOften_10 (by decide) (fun c1 => ?_) (fun c1 => ?_)
    · have hf := (if_pos c1).symm.trans hf
      refine lv_iconst (v := 0) hx hb dX12_mostOften_27 (by decide) ?_
      refine lv_istore (lv' := [(5, .int 0), (0, .ref v0), (1, .int v1), (2, .int v2), (3, .int v3), (4, .int v4)]) hx hb dX12_mostOften_28 hl (by decide) rfl (fun ls hl => ?_)
      exact w_X12_mostOften_30 G B hz hc0 hr hlk  n h v0 v1 v2 v3 v4 0 _ _ _ hw (lv_sub hl [1, 2, 3, 4, 5, 0] rfl) hf
    · have hf := (if_neg c1).symm.trans hf
      refine lv_aload_n hx hb dX12_mostOften_13 rfl (lv_at hl 0 rfl) ?_
      obtain ⟨a2, e, hf⟩ := ob hf
      refine q_getR e B hw fd_12_31.1 fd_12_31.2.1 fd_12_31.2.2.1 fd_12_31.2.2.2.1 fd_12_31.2.2.2.2 rfl tw_6_78 dX12_mostOften_14 ?_
      refine lv_iload hx hb dX12_mostOften_17 (lv_at hl 5 rfl) ?_
      refine lv_iconst (v := 0) hx hb dX12_mostOften_19 (by decide) ?_
      obtain ⟨h3, e, hf⟩ := ob hf
      refine q_stI e B hw dX12_mostOften_20 (fun H locs hw => ?_)
      obtain ⟨x4, e, hf⟩ := ob hf
      refine lv_iinc (v := x4) (lv' := [(5, .int x4), (0, .ref v0), (1, .int v1), (2, .int v2), (3, .int v3), (4, .int v4)]) hx hb dX12_mostOften_21 hl (k := 5) rfl (Option.some.inj e) (by decide) rfl (fun ls hl => ?_)
      refine lv_goto (tgt := 6) hx hb dX12_mostOften_24 (by decide) ?_
      exact ih h3 v0 v1 v2 v3 v4 x4 _ _ _ hw (lv_sub hl [1, 2, 3, 4, 5, 0] rfl) hf
set_option maxHeartbeats 4000000 in
theorem c_X12_mostOften {l : Launch} {s0 : State} {E : Ev} (G : Gl s0 E) {n : Nat} {z : Sh} {h : Hp} {v0 : Nat} {v1 : Int32} {v2 : Int32} {v3 : Int32} {r : Int32} {h' : Hp} (hf : f_X12_mostOften n z h v0 v1 v2 v3 = some (r, h')) : Ct l s0 E yX12_mostOften cX12_mostOften 7 (some .int) 3 72 [.ref v0, .int v1, .int v2, .int v3] z h h' (some (.int r)) := by
  refine Ct.of G (by decide) (Nat.le_of_ble_eq_true rfl) ?_
  intro p e s m below meth c ls B hw hz hc0 hr hlk hl
  have B : Bd p s0 s E m c cX12_mostOften 7 RX12 := B
  have hx := B.1
  have hb := B.2.1
  have hl : lv_has ls 7 [(0, .ref v0), (1, .int v1), (2, .int v2), (3, .int v3)] := hl
  unfold f_X12_mostOften at hf
  obtain ⟨_, hf⟩ := if_some hf
  refine lv_iconst (v := 0) hx hb dX12_mostOften_0 (by decide) ?_
  refine lv_istore (lv' := [(4, .int 0), (0, .ref v0), (1, .int v1), (2, .int v2), (3, .int v3)]) hx hb dX12_mostOften_1 hl (by decide) rfl (fun ls hl => ?_)
  refine lv_iconst (v := 0) hx hb dX12_mostOften_3 (by decide) ?_
  refine lv_istore (lv' := [(5, .int 0), (4, .int 0), (0, .ref v0), (1, .int v1), (2, .int v2), (3, .int v3)]) hx hb dX12_mostOften_4 hl (by decide) rfl (fun ls hl => ?_)
  exact w_X12_mostOften_6 G B hz hc0 hr hlk  n h v0 v1 v2 v3 0 0 _ _ _ hw (lv_sub hl [2, 3, 4, 5, 1, 0] rfl) hf
