/-! SecondLifeModel.beginsHope(I)V -/
def f_X12_beginsHope_7 (n : Nat) (z : Sh) : Nat → Hp → Nat → Int32 → Option (Hp)
  | 0, _, _, _ => none
  | i + 1, h, v0, v2 =>
    if 373870 ≤ v2 then
      some h
    else
      (gR z h 12 v0 30).bind fun a2 =>
      (stJ z h a2 v2 (-1)).bind fun h3 =>
      (some (v2 + 1)).bind fun x4 =>
      (f_X12_beginsHope_7 n z i) h3 v0 x4
def f_X12_beginsHope (n : Nat) (z : Sh) (h : Hp) (v0 : Nat) (v1 : Int32) : Option (Hp) :=
  if z.K v0 = 12 then
    (f_X12_begins n z h v0 v1).bind fun h1 =>
    f_X12_beginsHope_7 n z n h1 v0 0
  else none
theorem k_X12_beginsHope {n : Nat} {z : Sh} {h : Hp} {v0 : Nat} {v1 : Int32} {w : Hp} (hf : f_X12_beginsHope n z h v0 v1 = some w) : z.K v0 = 12 := by
  unfold f_X12_beginsHope at hf
  exact (if_some hf).1
set_option maxHeartbeats 4000000 in
theorem w_X12_beginsHope_7 {p : Program} {l : Launch} {e : Env} {s : State} {m : MethodId} {args : Array Value} {below : List Frame} {meth : Method} {c : Code} {s0 : State} {E : Ev} {z : Sh} {n : Nat} {h' : Hp} (G : Gl s0 E) (B : Bd p s0 s E m c cX12_beginsHope 3 RX12) (hz : s0.heap.size ≤ z.sz) (hc0 : s.heap.size + 0 = z.sz) (hr : meth.sig.returnType = none) (hlk : meth.locks = false) : ∀ (i : Nat), ∀ (h : Hp) (v0 : Nat) (v2 : Int32) (H : Heap) (locs : List Loc) (ls : Array Slot), Pw s0 s E z h H locs → lv_has ls 3 [(0, .ref v0), (2, .int v2)] → f_X12_beginsHope_7 n z i h v0 v2 = some h' → W p l e (rmO 1 22) s m args below meth c H locs 0 0 (Zt below s0 E z h' (none) args s 0 0) (F0 m 7 ls []) := by
  have hx := B.1
  have hb := B.2.1
  intro i
  induction i with
  | zero =>
    intro h v0 v2 H locs ls hw hl hf
    have hf := (f_X12_beginsHope_7.eq_1 ..).symm.trans hf
    cases hf
  | succ i ih =>
    intro h v0 v2 H locs ls hw hl hf
    have hf := (f_X12_beginsHope_7.eq_2 ..).symm.trans hf
    refine lv_iload_n hx hb dX12_beginsHope_7 rfl (lv_at hl 1 rfl) ?_
    refine lv_ldc hx hb B.2.2.2.1 (B.w tw_6_39 rfl) dX12_beginsHope_8 ?_
    refine lv_icmp_ge (tgt := 28) hx hb dX12_beginsHope_10 (by decide) (fun c1 => ?_) (fun c1 => ?_)
    · have hf := (if_pos c1).symm.trans hf
      obtain rfl := so hf
      exact q_vret B hw hz hc0 hr hlk dX12_beginsHope_28
    · have hf := (if_neg c1).symm.trans hf
      refine lv_aload_n hx hb dX12_beginsHope_13 rfl (lv_at hl 0 rfl) ?_
      obtain ⟨a2, e, hf⟩ := ob hf
      refine q_getR e B hw fd_12_30.1 fd_12_30.2.1 fd_12_30.2.2.1 fd_12_30.2.2.2.1 fd_12_30.2.2.2.2 rfl tw_6_73 dX12_beginsHope_14 ?_
      refine lv_iload_n hx hb dX12_beginsHope_17 rfl (lv_at hl 1 rfl) ?_
      refine lv_ldc2 hx hb B.2.2.2.1 (B.w tw_8_88 rfl) dX12_beginsHope_18 ?_
      obtain ⟨h3, e, hf⟩ := ob hf
      refine q_stJ e B hw dX12_beginsHope_21 (fun H locs hw => ?_)
      obtain ⟨x4, e, hf⟩ := ob hf
      refine lv_iinc (v := x4) (lv' := [(2, .int x4), (0, .ref v0)]) hx hb dX12_beginsHope_22 hl (k := 1) rfl (Option.some.inj e) (by decide) rfl (fun ls hl => ?_)
      refine lv_goto (tgt := 7) hx hb dX12_beginsHope_25 (by decide) ?_
      exact ih h3 v0 x4 _ _ _ hw (lv_sub hl [1, 0] rfl) hf
set_option maxHeartbeats 4000000 in
theorem c_X12_beginsHope {l : Launch} {s0 : State} {E : Ev} (G : Gl s0 E) {n : Nat} {z : Sh} {h : Hp} {v0 : Nat} {v1 : Int32} {h' : Hp} (hf : f_X12_beginsHope n z h v0 v1 = some h') : Ct l s0 E yX12_beginsHope cX12_beginsHope 3 none 1 22 [.ref v0, .int v1] z h h' (none) := by
  refine Ct.of G (by decide) (Nat.le_of_ble_eq_true rfl) ?_
  intro p e s m below meth c ls B hw hz hc0 hr hlk hl
  have B : Bd p s0 s E m c cX12_beginsHope 3 RX12 := B
  have hx := B.1
  have hb := B.2.1
  have hl : lv_has ls 3 [(0, .ref v0), (1, .int v1)] := hl
  unfold f_X12_beginsHope at hf
  obtain ⟨_, hf⟩ := if_some hf
  refine lv_aload_n hx hb dX12_beginsHope_0 rfl (lv_at hl 0 rfl) ?_
  refine lv_iload_n hx hb dX12_beginsHope_1 rfl (lv_at hl 1 rfl) ?_
  obtain ⟨h1, e, hf⟩ := ob hf
  refine q_callV (As := [.int v1]) (rest := []) (st1 := []) (c_X12_begins G e) B hw hz hc0 (k_X12_begins e) (by decide) (ci := 12) rfl rfl my_X12_begins mv_X12_begins tw_7_233 ⟨Nat.le_of_ble_eq_true rfl, Nat.le_of_ble_eq_true rfl⟩ ⟨Nat.zero_le _, Nat.zero_le _⟩ rfl hl.1 rfl rfl (Nat.le_of_ble_eq_true rfl) dX12_beginsHope_2 (fun H locs hw => ?_)
  refine lv_iconst (v := 0) hx hb dX12_beginsHope_5 (by decide) ?_
  refine lv_istore_n (lv' := [(2, .int 0), (0, .ref v0), (1, .int v1)]) hx hb dX12_beginsHope_6 rfl hl (by decide) rfl (fun ls hl => ?_)
  exact w_X12_beginsHope_7 G B hz hc0 hr hlk  n h1 v0 0 _ _ _ hw (lv_sub hl [1, 0] rfl) hf
/-! SecondLifeModel.hope(III)J -/
def f_X12_hope (n : Nat) (z : Sh) (h : Hp) (v0 : Nat) (v1 : Int32) (v2 : Int32) (v3 : Int32) : Option (Int64 × Hp) :=
  if z.K v0 = 12 then
    (pI z h 12 v0 0 0).bind fun h1 =>
    (f_X12_isPerson z h1 v0 (Int32.toInt64 v1)).bind fun x2 =>
    if x2 = 0 then
      some (((-99000002) : Int64), h1)
    else
      (f_X12_within z h1 (Int32.toInt64 v3) 0 1).bind fun x4 =>
      if x4 = 0 then
        some (((-99000002) : Int64), h1)
      else
        (f_X12_within z h1 (Int32.toInt64 v2) 0 60).bind fun x6 =>
        if x6 = 0 then
          some (((-99000003) : Int64), h1)
        else
          (f_X12_beginsHope n z h1 v0 v1).bind fun h8 =>
          (f_X12_standNow z h8 v0 v1).bind fun x9 =>
          (f_X12_hopeFrom n z h8 v0 x9 v2).bind fun (x10, h11) =>
          (f_X12_part z h11 x10 v3).bind fun x12 =>
          some (x12, h11)
  else none
theorem k_X12_hope {n : Nat} {z : Sh} {h : Hp} {v0 : Nat} {v1 : Int32} {v2 : Int32} {v3 : Int32} {w : Int64 × Hp} (hf : f_X12_hope n z h v0 v1 v2 v3 = some w) : z.K v0 = 12 := by
  unfold f_X12_hope at hf
  exact (if_some hf).1
set_option maxHeartbeats 4000000 in
theorem c_X12_hope {l : Launch} {s0 : State} {E : Ev} (G : Gl s0 E) {n : Nat} {z : Sh} {h : Hp} {v0 : Nat} {v1 : Int32} {v2 : Int32} {v3 : Int32} {r : Int64} {h' : Hp} (hf : f_X12_hope n z h v0 v1 v2 v3 = some (r, h')) : Ct l s0 E yX12_hope cX12_hope 4 (some .long) 104 6069 [.ref v0, .int v1, .int v2, .int v3] z h h' (some (.long r)) := by
  refine Ct.of G (by decide) (Nat.le_of_ble_eq_true rfl) ?_
  intro p e s m below meth c ls B hw hz hc0 hr hlk hl
  have B : Bd p s0 s E m c cX12_hope 4 RX12 := B
  have hx := B.1
  have hb := B.2.1
  have hl : lv_has ls 4 [(0, .ref v0), (1, .int v1), (2, .int v2), (3, .int v3)] := hl
  unfold f_X12_hope at hf
  obtain ⟨_, hf⟩ := if_some hf
  refine lv_aload_n hx hb dX12_hope_0 rfl (lv_at hl 0 rfl) ?_
  refine lv_iconst (v := 0) hx hb dX12_hope_1 (by decide) ?_
  obtain ⟨h1, e, hf⟩ := ob hf
  refine q_putI e B hw fd_12_0.1 fd_12_0.2.1 fd_12_0.2.2.1 fd_12_0.2.2.2.1 fd_12_0.2.2.2.2 rfl rfl (tyX12_ok 0 (by decide)) tyX12 tyX12_ok nmX12 tw_6_43 dX12_hope_2 (fun H locs hw => ?_)
  refine lv_aload_n hx hb dX12_hope_5 rfl (lv_at hl 0 rfl) ?_
  refine lv_iload_n hx hb dX12_hope_6 rfl (lv_at hl 1 rfl) ?_
  refine lv_i2l (v := (Int32.toInt64 v1)) hx hb dX12_hope_7 rfl ?_
  obtain ⟨x2, e, hf⟩ := ob hf
  refine q_callV (As := [.long (Int32.toInt64 v1)]) (rest := []) (st1 := [.int x2]) (c_X12_isPerson G e) B hw hz hc0 (k_X12_isPerson e) (by decide) (ci := 12) rfl rfl my_X12_isPerson mv_X12_isPerson tw_7_35 ⟨Nat.le_of_ble_eq_true rfl, Nat.le_of_ble_eq_true rfl⟩ ⟨Nat.zero_le _, Nat.zero_le _⟩ rfl hl.1 rfl rfl (Nat.le_of_ble_eq_true rfl) dX12_hope_8 (fun H locs hw => ?_)
  refine lv_if_eq (tgt := 24) hx hb dX12_hope_11 (by decide) (fun c3 => ?_) (fun c3 => ?_)
  · have hf := (if_pos c3).symm.trans hf
    refine lv_ldc2 hx hb B.2.2.2.1 (B.w tw_8_29 rfl) dX12_hope_24 ?_
    obtain ⟨rfl, rfl⟩ := so2 hf
    exact q_lret B hw hz hc0 hr hlk dX12_hope_27
  · have hf := (if_neg c3).symm.trans hf
    refine lv_iload_n hx hb dX12_hope_14 rfl (lv_at hl 3 rfl) ?_
    refine lv_i2l (v := (Int32.toInt64 v3)) hx hb dX12_hope_15 rfl ?_
    refine lv_lconst (v := 0) hx hb dX12_hope_16 (by decide) ?_
    refine lv_lconst (v := 1) hx hb dX12_hope_17 (by decide) ?_
    obtain ⟨x4, e, hf⟩ := ob hf
    refine q_callS (As := [.long (Int32.toInt64 v3), .long 0, .long 1]) (rest := []) (st1 := [.int x4]) (c_X12_within G e) B hw hz hc0 my_X12_within mv_X12_within tw_6_162 ⟨Nat.le_of_ble_eq_true rfl, Nat.le_of_ble_eq_true rfl⟩ ⟨Nat.zero_le _, Nat.zero_le _⟩ rfl hl.1 rfl rfl (Nat.le_of_ble_eq_true rfl) dX12_hope_18 (fun H locs hw => ?_)
    refine lv_if_ne (tgt := 28) hx hb dX12_hope_21 (by decide) (fun c5 => ?_) (fun c5 => ?_)
    · have hf := (if_neg c5).symm.trans hf
      refine lv_iload_n hx hb dX12_hope_28 rfl (lv_at hl 2 rfl) ?_
      refine lv_i2l (v := (Int32.toInt64 v2)) hx hb dX12_hope_29 rfl ?_
      refine lv_lconst (v := 0) hx hb dX12_hope_30 (by decide) ?_
      refine lv_ldc2 hx hb B.2.2.2.1 (B.w tw_8_82 rfl) dX12_hope_31 ?_
      obtain ⟨x6, e, hf⟩ := ob hf
      refine q_callS (As := [.long (Int32.toInt64 v2), .long 0, .long 60]) (rest := []) (st1 := [.int x6]) (c_X12_within G e) B hw hz hc0 my_X12_within mv_X12_within tw_6_162 ⟨Nat.le_of_ble_eq_true rfl, Nat.le_of_ble_eq_true rfl⟩ ⟨Nat.zero_le _, Nat.zero_le _⟩ rfl hl.1 rfl rfl (Nat.le_of_ble_eq_true rfl) dX12_hope_34 (fun H locs hw => ?_)
      refine lv_if_ne (tgt := 44) hx hb dX12_hope_37 (by decide) (fun c7 => ?_) (fun c7 => ?_)
      · have hf := (if_neg c7).symm.trans hf
        refine lv_aload_n hx hb dX12_hope_44 rfl (lv_at hl 0 rfl) ?_
        refine lv_iload_n hx hb dX12_hope_45 rfl (lv_at hl 1 rfl) ?_
        obtain ⟨h8, e, hf⟩ := ob hf
        refine q_callV (As := [.int v1]) (rest := []) (st1 := []) (c_X12_beginsHope G e) B hw hz hc0 (k_X12_beginsHope e) (by decide) (ci := 12) rfl rfl my_X12_beginsHope mv_X12_beginsHope tw_8_84 ⟨Nat.le_of_ble_eq_true rfl, Nat.le_of_ble_eq_true rfl⟩ ⟨Nat.zero_le _, Nat.zero_le _⟩ rfl hl.1 rfl rfl (Nat.le_of_ble_eq_true rfl) dX12_hope_46 (fun H locs hw => ?_)
        refine lv_aload_n hx hb dX12_hope_49 rfl (lv_at hl 0 rfl) ?_
        refine lv_aload_n hx hb dX12_hope_50 rfl (lv_at hl 0 rfl) ?_
        refine lv_iload_n hx hb dX12_hope_51 rfl (lv_at hl 1 rfl) ?_
        obtain ⟨x9, e, hf⟩ := ob hf
        refine q_callV (As := [.int v1]) (rest := [.ref v0]) (st1 := [.int x9, .ref v0]) (c_X12_standNow G e) B hw hz hc0 (k_X12_standNow e) (by decide) (ci := 12) rfl rfl my_X12_standNow mv_X12_standNow tw_7_48 ⟨Nat.le_of_ble_eq_true rfl, Nat.le_of_ble_eq_true rfl⟩ ⟨Nat.zero_le _, Nat.zero_le _⟩ rfl hl.1 rfl rfl (Nat.le_of_ble_eq_true rfl) dX12_hope_52 (fun H locs hw => ?_)
        refine lv_iload_n hx hb dX12_hope_55 rfl (lv_at hl 2 rfl) ?_
        obtain ⟨⟨x10, h11⟩, e, hf⟩ := ob hf
        refine q_callV (As := [.int x9, .int v2]) (rest := []) (st1 := [.long x10]) (c_X12_hopeFrom G e) B hw hz hc0 (k_X12_hopeFrom e) (by decide) (ci := 12) rfl rfl my_X12_hopeFrom mv_X12_hopeFrom tw_8_89 ⟨Nat.le_of_ble_eq_true rfl, Nat.le_of_ble_eq_true rfl⟩ ⟨Nat.zero_le _, Nat.zero_le _⟩ rfl hl.1 rfl rfl (Nat.le_of_ble_eq_true rfl) dX12_hope_56 (fun H locs hw => ?_)
        refine lv_iload_n hx hb dX12_hope_59 rfl (lv_at hl 3 rfl) ?_
        obtain ⟨x12, e, hf⟩ := ob hf
        refine q_callS (As := [.long x10, .int v3]) (rest := []) (st1 := [.long x12]) (c_X12_part G e) B hw hz hc0 my_X12_part mv_X12_part tw_8_64 ⟨Nat.le_of_ble_eq_true rfl, Nat.le_of_ble_eq_true rfl⟩ ⟨Nat.zero_le _, Nat.zero_le _⟩ rfl hl.1 rfl rfl (Nat.le_of_ble_eq_true rfl) dX12_hope_60 (fun H locs hw => ?_)
        obtain ⟨rfl, rfl⟩ := so2 hf
        exact q_lret B hw hz hc0 hr hlk dX12_hope_63
      · have hf := (if_pos c7).symm.trans hf
        refine lv_ldc2 hx hb B.2.2.2.1 (B.w tw_8_83 rfl) dX12_hope_40 ?_
        obtain ⟨rfl, rfl⟩ := so2 hf
        exact q_lret B hw hz hc0 hr hlk dX12_hope_43
    · have hf := (if_pos c5).symm.trans hf
      refine lv_ldc2 hx hb B.2.2.2.1 (B.w tw_8_29 rfl) dX12_hope_24 ?_
      obtain ⟨rfl, rfl⟩ := so2 hf
      exact q_lret B hw hz hc0 hr hlk dX12_hope_27
/-! SecondLifeModel.hoping(II)I -/
def f_X12_hoping_67 (n : Nat) (z : Sh) : Nat → Hp → Nat → Int32 → Int32 → Int64 → Int32 → Option (Int32 × Hp)
  | 0, _, _, _, _, _, _ => none
  | i + 1, h, v0, v2, v3, v4, v6 =>
    (gR z h 12 v0 1).bind fun a1 =>
    (ldI z h a1 2).bind fun x2 =>
    if x2 ≤ v6 then
      some ((9 : Int32), h)
    else
      (f_X12_isOver z h v0 v3).bind fun x4 =>
      if x4 = 0 then
        (f_X12_livedHope n z h v0 v3 v6 v2).bind fun (x6, h7) =>
        if (lg_cmp x6 v4) = 0 then
          some (v6, h7)
        else
          (some (v6 + 1)).bind fun x9 =>
          (f_X12_hoping_67 n z i) h7 v0 v2 v3 v4 x9
      else
        some ((9 : Int32), h)
def f_X12_hoping (n : Nat) (z : Sh) (h : Hp) (v0 : Nat) (v1 : Int32) (v2 : Int32) : Option (Int32 × Hp) :=
  if z.K v0 = 12 then
    (pI z h 12 v0 0 0).bind fun h1 =>
    (f_X12_isPerson z h1 v0 (Int32.toInt64 v1)).bind fun x2 =>
    if x2 = 0 then
      some (((-99000002) : Int32), h1)
    else
      (f_X12_within z h1 (Int32.toInt64 v2) 0 60).bind fun x4 =>
      if x4 = 0 then
        some (((-99000003) : Int32), h1)
      else
        (f_X12_beginsHope n z h1 v0 v1).bind fun h6 =>
        (f_X12_standNow z h6 v0 v1).bind fun x7 =>
        (f_X12_hopeFrom n z h6 v0 x7 v2).bind fun (x8, h9) =>
        if v2 = 0 then
          some (((-1) : Int32), h9)
        else
          if (lg_cmp x8 0) = 0 then
            some (((-1) : Int32), h9)
          else
            f_X12_hoping_67 n z n h9 v0 v2 x7 x8 0
  else none
theorem k_X12_hoping {n : Nat} {z : Sh} {h : Hp} {v0 : Nat} {v1 : Int32} {v2 : Int32} {w : Int32 × Hp} (hf : f_X12_hoping n z h v0 v1 v2 = some w) : z.K v0 = 12 := by
  unfold f_X12_hoping at hf
  exact (if_some hf).1
set_option maxHeartbeats 4000000 in
theorem w_X12_hoping_67 {p : Program} {l : Launch} {e : Env} {s : State} {m : MethodId} {args : Array Value} {below : List Frame} {meth : Method} {c : Code} {s0 : State} {E : Ev} {z : Sh} {n : Nat} {r : Int32} {h' : Hp} (G : Gl s0 E) (B : Bd p s0 s E m c cX12_hoping 7 RX12) (hz : s0.heap.size ≤ z.sz) (hc0 : s.heap.size + 0 = z.sz) (hr : meth.sig.returnType = (some .int)) (hlk : meth.locks = false) : ∀ (i : Nat), ∀ (h : Hp) (v0 : Nat) (v2 : Int32) (v3 : Int32) (v4 : Int64) (v6 : Int32) (H : Heap) (locs : List Loc) (ls : Array Slot), Pw s0 s E z h H locs → lv_has ls 7 [(0, .ref v0), (2, .int v2), (3, .int v3), (4, .long v4), (6, .int v6)] → f_X12_hoping_67 n z i h v0 v2 v3 v4 v6 = some (r, h') → W p l e (rmO 66 3722) s m args below meth c H locs 0 0 (Zt below s0 E z h' (some (.int r)) args s 0 0) (F0 m 67 ls []) := by
  have hx := B.1
  have hb := B.2.1
  intro i
  induction i with
  | zero =>
    intro h v0 v2 v3 v4 v6 H locs ls hw hl hf
    have hf := (f_X12_hoping_67.eq_1 ..).symm.trans hf
    cases hf
  | succ i ih =>
    intro h v0 v2 v3 v4 v6 H locs ls hw hl hf
    have hf := (f_X12_hoping_67.eq_2 ..).symm.trans hf
    refine lv_iload hx hb dX12_hoping_67 (lv_at hl 4 rfl) ?_
    refine lv_aload_n hx hb dX12_hoping_69 rfl (lv_at hl 0 rfl) ?_
    obtain ⟨a1, e, hf⟩ := ob hf
    refine q_getR e B hw fd_12_1.1 fd_12_1.2.1 fd_12_1.2.2.1 fd_12_1.2.2.2.1 fd_12_1.2.2.2.2 rfl tw_6_44 dX12_hoping_70 ?_
    refine lv_iconst (v := 2) hx hb dX12_hoping_73 (by decide) ?_
    obtain ⟨x2, e, hf⟩ := ob hf
    refine q_ldI e B hw dX12_hoping_74 ?_
    refine lv_icmp_ge (tgt := 109) hx hb dX12_hoping_75 (by decide) (fun c3 => ?_) (fun c3 => ?_)
    · have hf := (if_pos c3).symm.trans hf
      refine lv_bipush (v := 9) hx hb dX12_hoping_109 (by decide) ?_
      obtain ⟨rfl, rfl⟩ := so2 hf
      exact q_iret B hw hz hc0 hr hlk dX12_hoping_111
    · have hf := (if_neg c3).symm.trans hf
      refine lv_aload_n hx hb dX12_hoping_78 rfl (lv_at hl 0 rfl) ?_
      refine lv_iload_n hx hb dX12_hoping_79 rfl (lv_at hl 2 rfl) ?_
      obtain ⟨x4, e, hf⟩ := ob hf
      refine q_callV (As := [.int v3]) (rest := []) (st1 := [.int x4]) (c_X12_isOver G e) B hw hz hc0 (k_X12_isOver e) (by decide) (ci := 12) rfl rfl my_X12_isOver mv_X12_isOver tw_7_55 ⟨Nat.le_of_ble_eq_true rfl, Nat.le_of_ble_eq_true rfl⟩ ⟨Nat.zero_le _, Nat.zero_le _⟩ rfl hl.1 rfl rfl (Nat.le_of_ble_eq_true rfl) dX12_hoping_80 (fun H locs hw => ?_)
      refine lv_if_ne (tgt := 109) hx hb dX12_hoping_83 (by decide) (fun c5 => ?_) (fun c5 => ?_)
      · have hf := (if_neg c5).symm.trans hf
        refine lv_bipush (v := 9) hx hb dX12_hoping_109 (by decide) ?_
        obtain ⟨rfl, rfl⟩ := so2 hf
        exact q_iret B hw hz hc0 hr hlk dX12_hoping_111
      · have hf := (if_pos c5).symm.trans hf
        refine lv_aload_n hx hb dX12_hoping_86 rfl (lv_at hl 0 rfl) ?_
        refine lv_iload_n hx hb dX12_hoping_87 rfl (lv_at hl 2 rfl) ?_
        refine lv_iload hx hb dX12_hoping_88 (lv_at hl 4 rfl) ?_
        refine lv_iload_n hx hb dX12_hoping_90 rfl (lv_at hl 1 rfl) ?_
        obtain ⟨⟨x6, h7⟩, e, hf⟩ := ob hf
        refine q_callV (As := [.int v3, .int v6, .int v2]) (rest := []) (st1 := [.long x6]) (c_X12_livedHope G e) B hw hz hc0 (k_X12_livedHope e) (by decide) (ci := 12) rfl rfl my_X12_livedHope mv_X12_livedHope tw_8_101 ⟨Nat.le_of_ble_eq_true rfl, Nat.le_of_ble_eq_true rfl⟩ ⟨Nat.zero_le _, Nat.zero_le _⟩ rfl hl.1 rfl rfl (Nat.le_of_ble_eq_true rfl) dX12_hoping_91 (fun H locs hw => ?_)
        refine lv_lload hx hb dX12_hoping_94 (lv_at hl 3 rfl) ?_
        refine W.lcmp hx hb dX12_hoping_96 ?_
        refine lv_if_ne (tgt := 103) hx hb dX12_hoping_97 (by decide) (fun c8 => ?_) (fun c8 => ?_)
        · have hf := (if_neg c8).symm.trans hf
          obtain ⟨x9, e, hf⟩ := ob hf
          refine lv_iinc (v := x9) (lv' := [(6, .int x9), (0, .ref v0), (2, .int v2), (3, .int v3), (4, .long v4)]) hx hb dX12_hoping_103 hl (k := 4) rfl (Option.some.inj e) (by decide) rfl (fun ls hl => ?_)
          refine lv_goto (tgt := 67) hx hb dX12_hoping_106 (by decide) ?_
          exact ih h7 v0 v2 v3 v4 x9 _ _ _ hw (lv_sub hl [1, 2, 3, 4, 0] rfl) hf
        · have hf := (if_pos c8).symm.trans hf
          refine lv_iload hx hb dX12_hoping_100 (lv_at hl 4 rfl) ?_
          obtain ⟨rfl, rfl⟩ := so2 hf
          exact q_iret B hw hz hc0 hr hlk dX12_hoping_102
set_option maxHeartbeats 4000000 in
theorem c_X12_hoping {l : Launch} {s0 : State} {E : Ev} (G : Gl s0 E) {n : Nat} {z : Sh} {h : Hp} {v0 : Nat} {v1 : Int32} {v2 : Int32} {r : Int32} {h' : Hp} (hf : f_X12_hoping n z h v0 v1 v2 = some (r, h')) : Ct l s0 E yX12_hoping cX12_hoping 7 (some .int) 66 3722 [.ref v0, .int v1, .int v2] z h h' (some (.int r)) := by
  refine Ct.of G (by decide) (Nat.le_of_ble_eq_true rfl) ?_
  intro p e s m below meth c ls B hw hz hc0 hr hlk hl
  have B : Bd p s0 s E m c cX12_hoping 7 RX12 := B
  have hx := B.1
  have hb := B.2.1
  have hl : lv_has ls 7 [(0, .ref v0), (1, .int v1), (2, .int v2)] := hl
  unfold f_X12_hoping at hf
  obtain ⟨_, hf⟩ := if_some hf
  refine lv_aload_n hx hb dX12_hoping_0 rfl (lv_at hl 0 rfl) ?_
  refine lv_iconst (v := 0) hx hb dX12_hoping_1 (by decide) ?_
  obtain ⟨h1, e, hf⟩ := ob hf
  refine q_putI e B hw fd_12_0.1 fd_12_0.2.1 fd_12_0.2.2.1 fd_12_0.2.2.2.1 fd_12_0.2.2.2.2 rfl rfl (tyX12_ok 0 (by decide)) tyX12 tyX12_ok nmX12 tw_6_43 dX12_hoping_2 (fun H locs hw => ?_)
  refine lv_aload_n hx hb dX12_hoping_5 rfl (lv_at hl 0 rfl) ?_
  refine lv_iload_n hx hb dX12_hoping_6 rfl (lv_at hl 1 rfl) ?_
  refine lv_i2l (v := (Int32.toInt64 v1)) hx hb dX12_hoping_7 rfl ?_
  obtain ⟨x2, e, hf⟩ := ob hf
  refine q_callV (As := [.long (Int32.toInt64 v1)]) (rest := []) (st1 := [.int x2]) (c_X12_isPerson G e) B hw hz hc0 (k_X12_isPerson e) (by decide) (ci := 12) rfl rfl my_X12_isPerson mv_X12_isPerson tw_7_35 ⟨Nat.le_of_ble_eq_true rfl, Nat.le_of_ble_eq_true rfl⟩ ⟨Nat.zero_le _, Nat.zero_le _⟩ rfl hl.1 rfl rfl (Nat.le_of_ble_eq_true rfl) dX12_hoping_8 (fun H locs hw => ?_)
  refine lv_if_ne (tgt := 17) hx hb dX12_hoping_11 (by decide) (fun c3 => ?_) (fun c3 => ?_)
  · have hf := (if_neg c3).symm.trans hf
    refine lv_iload_n hx hb dX12_hoping_17 rfl (lv_at hl 2 rfl) ?_
    refine lv_i2l (v := (Int32.toInt64 v2)) hx hb dX12_hoping_18 rfl ?_
    refine lv_lconst (v := 0) hx hb dX12_hoping_19 (by decide) ?_
    refine lv_ldc2 hx hb B.2.2.2.1 (B.w tw_8_82 rfl) dX12_hoping_20 ?_
    obtain ⟨x4, e, hf⟩ := ob hf
    refine q_callS (As := [.long (Int32.toInt64 v2), .long 0, .long 60]) (rest := []) (st1 := [.int x4]) (c_X12_within G e) B hw hz hc0 my_X12_within mv_X12_within tw_6_162 ⟨Nat.le_of_ble_eq_true rfl, Nat.le_of_ble_eq_true rfl⟩ ⟨Nat.zero_le _, Nat.zero_le _⟩ rfl hl.1 rfl rfl (Nat.le_of_ble_eq_true rfl) dX12_hoping_23 (fun H locs hw => ?_)
    refine lv_if_ne (tgt := 32) hx hb dX12_hoping_26 (by decide) (fun c5 => ?_) (fun c5 => ?_)
    · have hf := (if_neg c5).symm.trans hf
      refine lv_aload_n hx hb dX12_hoping_32 rfl (lv_at hl 0 rfl) ?_
      refine lv_iload_n hx hb dX12_hoping_33 rfl (lv_at hl 1 rfl) ?_
      obtain ⟨h6, e, hf⟩ := ob hf
      refine q_callV (As := [.int v1]) (rest := []) (st1 := []) (c_X12_beginsHope G e) B hw hz hc0 (k_X12_beginsHope e) (by decide) (ci := 12) rfl rfl my_X12_beginsHope mv_X12_beginsHope tw_8_84 ⟨Nat.le_of_ble_eq_true rfl, Nat.le_of_ble_eq_true rfl⟩ ⟨Nat.zero_le _, Nat.zero_le _⟩ rfl hl.1 rfl rfl (Nat.le_of_ble_eq_true rfl) dX12_hoping_34 (fun H locs hw => ?_)
      refine lv_aload_n hx hb dX12_hoping_37 rfl (lv_at hl 0 rfl) ?_
      refine lv_iload_n hx hb dX12_hoping_38 rfl (lv_at hl 1 rfl) ?_
      obtain ⟨x7, e, hf⟩ := ob hf
      refine q_callV (As := [.int v1]) (rest := []) (st1 := [.int x7]) (c_X12_standNow G e) B hw hz hc0 (k_X12_standNow e) (by decide) (ci := 12) rfl rfl my_X12_standNow mv_X12_standNow tw_7_48 ⟨Nat.le_of_ble_eq_true rfl, Nat.le_of_ble_eq_true rfl⟩ ⟨Nat.zero_le _, Nat.zero_le _⟩ rfl hl.1 rfl rfl (Nat.le_of_ble_eq_true rfl) dX12_hoping_39 (fun H locs hw => ?_)
      refine lv_istore_n (lv' := [(3, .int x7), (0, .ref v0), (1, .int v1), (2, .int v2)]) hx hb dX12_hoping_42 rfl hl (by decide) rfl (fun ls hl => ?_)
      refine lv_aload_n hx hb dX12_hoping_43 rfl (lv_at hl 1 rfl) ?_
      refine lv_iload_n hx hb dX12_hoping_44 rfl (lv_at hl 0 rfl) ?_
      refine lv_iload_n hx hb dX12_hoping_45 rfl (lv_at hl 3 rfl) ?_
      obtain ⟨⟨x8, h9⟩, e, hf⟩ := ob hf
      refine q_callV (As := [.int x7, .int v2]) (rest := []) (st1 := [.long x8]) (c_X12_hopeFrom G e) B hw hz hc0 (k_X12_hopeFrom e) (by decide) (ci := 12) rfl rfl my_X12_hopeFrom mv_X12_hopeFrom tw_8_89 ⟨Nat.le_of_ble_eq_true rfl, Nat.le_of_ble_eq_true rfl⟩ ⟨Nat.zero_le _, Nat.zero_le _⟩ rfl hl.1 rfl rfl (Nat.le_of_ble_eq_true rfl) dX12_hoping_46 (fun H locs hw => ?_)
      refine lv_lstore (lv' := [(4, .long x8), (3, .int x7), (0, .ref v0), (1, .int v1), (2, .int v2)]) hx hb dX12_hoping_49 hl (by decide) rfl (fun ls hl => ?_)
      refine lv_iload_n hx hb dX12_hoping_51 rfl (lv_at hl 4 rfl) ?_
      refine lv_if_eq (tgt := 62) hx hb dX12_hoping_52 (by decide) (fun c10 => ?_) (fun c10 => ?_)
      · have hf := (if_pos c10).symm.trans hf
        refine lv_iconst (v := (-1)) hx hb dX12_hoping_62 (by decide) ?_
        obtain ⟨rfl, rfl⟩ := so2 hf
        exact q_iret B hw hz hc0 hr hlk dX12_hoping_63
      · have hf := (if_neg c10).symm.trans hf
        refine lv_lload hx hb dX12_hoping_55 (lv_at hl 0 rfl) ?_
        refine lv_lconst (v := 0) hx hb dX12_hoping_57 (by decide) ?_
        refine W.lcmp hx hb dX12_hoping_58 ?_
        refine lv_if_ne (tgt := 64) hx hb dX12_hoping_59 (by decide) (fun c11 => ?_) (fun c11 => ?_)
        · have hf := (if_neg c11).symm.trans hf
          refine lv_iconst (v := 0) hx hb dX12_hoping_64 (by decide) ?_
          refine lv_istore (lv' := [(6, .int 0), (4, .long x8), (3, .int x7), (0, .ref v0), (1, .int v1), (2, .int v2)]) hx hb dX12_hoping_65 hl (by decide) rfl (fun ls hl => ?_)
          exact w_X12_hoping_67 G B hz hc0 hr hlk  n h9 v0 v2 x7 x8 0 _ _ _ hw (lv_sub hl [3, 5, 2, 1, 0] rfl) hf
        · have hf := (if_pos c11).symm.trans hf
          refine lv_iconst (v := (-1)) hx hb dX12_hoping_62 (by decide) ?_
          obtain ⟨rfl, rfl⟩ := so2 hf
          exact q_iret B hw hz hc0 hr hlk dX12_hoping_63
    · have hf := (if_pos c5).symm.trans hf
      refine lv_ldc hx hb B.2.2.2.1 (B.w tw_6_165 rfl) dX12_hoping_29 ?_
      obtain ⟨rfl, rfl⟩ := so2 hf
      exact q_iret B hw hz hc0 hr hlk dX12_hoping_31
  · have hf := (if_pos c3).symm.trans hf
    refine lv_ldc hx hb B.2.2.2.1 (B.w tw_7_39 rfl) dX12_hoping_14 ?_
    obtain ⟨rfl, rfl⟩ := so2 hf
    exact q_iret B hw hz hc0 hr hlk dX12_hoping_16
/-! SecondLifeModel.noLived(II)I -/
def f_X12_noLived_85 (n : Nat) (z : Sh) (h : Hp) : Nat → Nat → Int32 → Int32 → Option (Int32)
  | 0, _, _, _ => none
  | i + 1, v0, v1, v4 =>
    (gR z h 12 v0 34).bind fun a1 =>
    (ldI z h a1 v1).bind fun x2 =>
    if x2 ≤ v4 then
      some (0 : Int32)
    else
      (gR z h 12 v0 35).bind fun a4 =>
      (ldJ z h a4 ((40 * v1) + v4)).bind fun x5 =>
      (f_X12_isTrade z h v0 x5).bind fun x6 =>
      if x6 = 0 then
        some ((-99000003) : Int32)
      else
        (some (v4 + 1)).bind fun x8 =>
        (f_X12_noLived_85 n z h i) v0 v1 x8
def f_X12_noLived (n : Nat) (z : Sh) (h : Hp) (v0 : Nat) (v1 : Int32) (v2 : Int32) : Option (Int32) :=
  if z.K v0 = 12 then
    (f_X12_within z h (Int32.toInt64 v1) 0 3).bind fun x1 =>
    if x1 = 0 then
      some ((-99000002) : Int32)
    else
      (f_X12_isPerson z h v0 (Int32.toInt64 v2)).bind fun x3 =>
      if x3 = 0 then
        some ((-99000002) : Int32)
      else
        (f_X12_noTray z h v0 v1).bind fun x5 =>
        if x5 = 0 then
          (gR z h 12 v0 34).bind fun a7 =>
          (ldI z h a7 v1).bind fun x8 =>
          (f_X12_within z h (Int32.toInt64 x8) 1 12).bind fun x9 =>
          if x9 = 0 then
            some ((-99000004) : Int32)
          else
            (gR z h 12 v0 34).bind fun a11 =>
            (ldI z h a11 v1).bind fun x12 =>
            (gR z h 12 v0 1).bind fun a13 =>
            (ldI z h a13 1).bind fun x14 =>
            (gR z h 12 v0 1).bind fun a15 =>
            (ldI z h a15 (18 + v2)).bind fun x16 =>
            if x12 ≤ (x14 - x16) then
              f_X12_noLived_85 n z h n v0 v1 0
            else
              some ((-99000004) : Int32)
        else
          some x5
  else none
theorem k_X12_noLived {n : Nat} {z : Sh} {h : Hp} {v0 : Nat} {v1 : Int32} {v2 : Int32} {w : Int32} (hf : f_X12_noLived n z h v0 v1 v2 = some w) : z.K v0 = 12 := by
  unfold f_X12_noLived at hf
  exact (if_some hf).1
set_option maxHeartbeats 4000000 in
theorem w_X12_noLived_85 {p : Program} {l : Launch} {e : Env} {s : State} {m : MethodId} {args : Array Value} {below : List Frame} {meth : Method} {c : Code} {s0 : State} {E : Ev} {z : Sh} {h : Hp} {n : Nat} {r : Int32} (G : Gl s0 E) (B : Bd p s0 s E m c cX12_noLived 5 RX12) (hz : s0.heap.size ≤ z.sz) (hc0 : s.heap.size + 0 = z.sz) (hr : meth.sig.returnType = (some .int)) (hlk : meth.locks = false) : ∀ (i : Nat), ∀ (v0 : Nat) (v1 : Int32) (v4 : Int32) (H : Heap) (locs : List Loc) (ls : Array Slot), Pw s0 s E z h H locs → lv_has ls 5 [(0, .ref v0), (1, .int v1), (4, .int v4)] → f_X12_noLived_85 n z h i v0 v1 v4 = some r → W p l e (rmO 2 47) s m args below meth c H locs 0 0 (Zt below s0 E z h (some (.int r)) args s 0 0) (F0 m 85 ls []) := by
  have hx := B.1
  have hb := B.2.1
  intro i
  induction i with
  | zero =>
    intro v0 v1 v4 H locs ls hw hl hf
    have hf := (f_X12_noLived_85.eq_1 ..).symm.trans hf
    cases hf
  | succ i ih =>
    intro v0 v1 v4 H locs ls hw hl hf
    have hf := (f_X12_noLived_85.eq_2 ..).symm.trans hf
    refine lv_iload hx hb dX12_noLived_85 (lv_at hl 2 rfl) ?_
    refine lv_aload_n hx hb dX12_noLived_87 rfl (lv_at hl 0 rfl) ?_
    obtain ⟨a1, e, hf⟩ := ob hf
    refine q_getR e B hw fd_12_34.1 fd_12_34.2.1 fd_12_34.2.2.1 fd_12_34.2.2.2.1 fd_12_34.2.2.2.2 rfl tw_6_77 dX12_noLived_88 ?_
    refine lv_iload_n hx hb dX12_noLived_91 rfl (lv_at hl 1 rfl) ?_
    obtain ⟨x2, e, hf⟩ := ob hf
    refine q_ldI e B hw dX12_noLived_92 ?_
    refine lv_icmp_ge (tgt := 124) hx hb dX12_noLived_93 (by decide) (fun c3 => ?_) (fun c3 => ?_)
    · have hf := (if_pos c3).symm.trans hf
      refine lv_iconst (v := 0) hx hb dX12_noLived_124 (by decide) ?_
      obtain rfl := so hf
      exact q_iret B hw hz hc0 hr hlk dX12_noLived_125
    · have hf := (if_neg c3).symm.trans hf
      refine lv_aload_n hx hb dX12_noLived_96 rfl (lv_at hl 0 rfl) ?_
      refine lv_aload_n hx hb dX12_noLived_97 rfl (lv_at hl 0 rfl) ?_
      obtain ⟨a4, e, hf⟩ := ob hf
      refine q_getR e B hw fd_12_35.1 fd_12_35.2.1 fd_12_35.2.2.1 fd_12_35.2.2.2.1 fd_12_35.2.2.2.2 rfl tw_6_78 dX12_noLived_98 ?_
      refine lv_bipush (v := 40) hx hb dX12_noLived_101 (by decide) ?_
      refine lv_iload_n hx hb dX12_noLived_103 rfl (lv_at hl 1 rfl) ?_
      refine lv_imul hx hb dX12_noLived_104 ?_
      refine lv_iload hx hb dX12_noLived_105 (lv_at hl 2 rfl) ?_
      refine lv_iadd hx hb dX12_noLived_107 ?_
      obtain ⟨x5, e, hf⟩ := ob hf
      refine q_ldJ e B hw dX12_noLived_108 ?_
      obtain ⟨x6, e, hf⟩ := ob hf
      refine q_callV (As := [.long x5]) (rest := []) (st1 := [.int x6]) (c_X12_isTrade G e) B hw hz hc0 (k_X12_isTrade e) (by decide) (ci := 12) rfl rfl my_X12_isTrade mv_X12_isTrade tw_7_44 ⟨Nat.le_of_ble_eq_true rfl, Nat.le_of_ble_eq_true rfl⟩ ⟨Nat.zero_le _, Nat.zero_le _⟩ rfl hl.1 rfl rfl (Nat.le_of_ble_eq_true rfl) dX12_noLived_109 (fun H locs hw => ?_)
      refine lv_if_ne (tgt := 118) hx hb dX12_noLived_112 (by decide) (fun c7 => ?_) (fun c7 => ?_)
      · have hf := (if_neg c7).symm.trans hf
        obtain ⟨x8, e, hf⟩ := ob hf
        refine lv_iinc (v := x8) (lv' := [(4, .int x8), (0, .ref v0), (1, .int v1)]) hx hb dX12_noLived_118 hl (k := 2) rfl (Option.some.inj e) (by decide) rfl (fun ls hl => ?_)
        refine lv_goto (tgt := 85) hx hb dX12_noLived_121 (by decide) ?_
        exact ih v0 v1 x8 _ _ _ hw (lv_sub hl [1, 2, 0] rfl) hf
      · have hf := (if_pos c7).symm.trans hf
        refine lv_ldc hx hb B.2.2.2.1 (B.w tw_6_165 rfl) dX12_noLived_115 ?_
        obtain rfl := so hf
        exact q_iret B hw hz hc0 hr hlk dX12_noLived_117
set_option maxHeartbeats 4000000 in
theorem c_X12_noLived {l : Launch} {s0 : State} {E : Ev} (G : Gl s0 E) {n : Nat} {z : Sh} {h : Hp} {v0 : Nat} {v1 : Int32} {v2 : Int32} {r : Int32} (hf : f_X12_noLived n z h v0 v1 v2 = some r) : Ct l s0 E yX12_noLived cX12_noLived 5 (some .int) 2 47 [.ref v0, .int v1, .int v2] z h h (some (.int r)) := by
  refine Ct.of G (by decide) (Nat.le_of_ble_eq_true rfl) ?_
  intro p e s m below meth c ls B hw hz hc0 hr hlk hl
  have B : Bd p s0 s E m c cX12_noLived 5 RX12 := B
  have hx := B.1
  have hb := B.2.1
  have hl : lv_has ls 5 [(0, .ref v0), (1, .int v1), (2, .int v2)] := hl
  unfold f_X12_noLived at hf
  obtain ⟨_, hf⟩ := if_some hf
  refine lv_iload_n hx hb dX12_noLived_0 rfl (lv_at hl 1 rfl) ?_
  refine lv_i2l (v := (Int32.toInt64 v1)) hx hb dX12_noLived_1 rfl ?_
  refine lv_lconst (v := 0) hx hb dX12_noLived_2 (by decide) ?_
  refine lv_ldc2 hx hb B.2.2.2.1 (B.w tw_7_175 rfl) dX12_noLived_3 ?_
  obtain ⟨x1, e, hf⟩ := ob hf
  refine q_callS (As := [.long (Int32.toInt64 v1), .long 0, .long 3]) (rest := []) (st1 := [.int x1]) (c_X12_within G e) B hw hz hc0 my_X12_within mv_X12_within tw_6_162 ⟨Nat.le_of_ble_eq_true rfl, Nat.le_of_ble_eq_true rfl⟩ ⟨Nat.zero_le _, Nat.zero_le _⟩ rfl hl.1 rfl rfl (Nat.le_of_ble_eq_true rfl) dX12_noLived_6 (fun H locs hw => ?_)
  refine lv_if_eq (tgt := 21) hx hb dX12_noLived_9 (by decide) (fun c2 => ?_) (fun c2 => ?_)
  · have hf := (if_pos c2).symm.trans hf
    refine lv_ldc hx hb B.2.2.2.1 (B.w tw_7_39 rfl) dX12_noLived_21 ?_
    obtain rfl := so hf
    exact q_iret B hw hz hc0 hr hlk dX12_noLived_23
  · have hf := (if_neg c2).symm.trans hf
    refine lv_aload_n hx hb dX12_noLived_12 rfl (lv_at hl 0 rfl) ?_
    refine lv_iload_n hx hb dX12_noLived_13 rfl (lv_at hl 2 rfl) ?_
    refine lv_i2l (v := (Int32.toInt64 v2)) hx hb dX12_noLived_14 rfl ?_
    obtain ⟨x3, e, hf⟩ := ob hf
    refine q_callV (As := [.long (Int32.toInt64 v2)]) (rest := []) (st1 := [.int x3]) (c_X12_isPerson G e) B hw hz hc0 (k_X12_isPerson e) (by decide) (ci := 12) rfl rfl my_X12_isPerson mv_X12_isPerson tw_7_35 ⟨Nat.le_of_ble_eq_true rfl, Nat.le_of_ble_eq_true rfl⟩ ⟨Nat.zero_le _, Nat.zero_le _⟩ rfl hl.1 rfl rfl (Nat.le_of_ble_eq_true rfl) dX12_noLived_15 (fun H locs hw => ?_)
    refine lv_if_ne (tgt := 24) hx hb dX12_noLived_18 (by decide) (fun c4 => ?_) (fun c4 => ?_)
    · have hf := (if_neg c4).symm.trans hf
      refine lv_aload_n hx hb dX12_noLived_24 rfl (lv_at hl 0 rfl) ?_
      refine lv_iload_n hx hb dX12_noLived_25 rfl (lv_at hl 1 rfl) ?_
      obtain ⟨x5, e, hf⟩ := ob hf
      refine q_callV (As := [.int v1]) (rest := []) (st1 := [.int x5]) (c_X12_noTray G e) B hw hz hc0 (k_X12_noTray e) (by decide) (ci := 12) rfl rfl my_X12_noTray mv_X12_noTray tw_7_176 ⟨Nat.le_of_ble_eq_true rfl, Nat.le_of_ble_eq_true rfl⟩ ⟨Nat.zero_le _, Nat.zero_le _⟩ rfl hl.1 rfl rfl (Nat.le_of_ble_eq_true rfl) dX12_noLived_26 (fun H locs hw => ?_)
      refine lv_istore_n (lv' := [(3, .int x5), (0, .ref v0), (1, .int v1), (2, .int v2)]) hx hb dX12_noLived_29 rfl hl (by decide) rfl (fun ls hl => ?_)
      refine lv_iload_n hx hb dX12_noLived_30 rfl (lv_at hl 0 rfl) ?_
      refine lv_if_eq (tgt := 36) hx hb dX12_noLived_31 (by decide) (fun c6 => ?_) (fun c6 => ?_)
      · have hf := (if_pos c6).symm.trans hf
        refine lv_aload_n hx hb dX12_noLived_36 rfl (lv_at hl 1 rfl) ?_
        obtain ⟨a7, e, hf⟩ := ob hf
        refine q_getR e B hw fd_12_34.1 fd_12_34.2.1 fd_12_34.2.2.1 fd_12_34.2.2.2.1 fd_12_34.2.2.2.2 rfl tw_6_77 dX12_noLived_37 ?_
        refine lv_iload_n hx hb dX12_noLived_40 rfl (lv_at hl 2 rfl) ?_
        obtain ⟨x8, e, hf⟩ := ob hf
        refine q_ldI e B hw dX12_noLived_41 ?_
        refine lv_i2l (v := (Int32.toInt64 x8)) hx hb dX12_noLived_42 rfl ?_
        refine lv_lconst (v := 1) hx hb dX12_noLived_43 (by decide) ?_
        refine lv_ldc2 hx hb B.2.2.2.1 (B.w tw_8_117 rfl) dX12_noLived_44 ?_
        obtain ⟨x9, e, hf⟩ := ob hf
        refine q_callS (As := [.long (Int32.toInt64 x8), .long 1, .long 12]) (rest := []) (st1 := [.int x9]) (c_X12_within G e) B hw hz hc0 my_X12_within mv_X12_within tw_6_162 ⟨Nat.le_of_ble_eq_true rfl, Nat.le_of_ble_eq_true rfl⟩ ⟨Nat.zero_le _, Nat.zero_le _⟩ rfl hl.1 rfl rfl (Nat.le_of_ble_eq_true rfl) dX12_noLived_47 (fun H locs hw => ?_)
        refine lv_if_eq (tgt := 78) hx hb dX12_noLived_50 (by decide) (fun c10 => ?_) (fun c10 => ?_)
        · have hf := (if_pos c10).symm.trans hf
          refine lv_ldcw hx hb B.2.2.2.1 (B.w tw_8_118 rfl) dX12_noLived_78 ?_
          obtain rfl := so hf
          exact q_iret B hw hz hc0 hr hlk dX12_noLived_81
        · have hf := (if_neg c10).symm.trans hf
          refine lv_aload_n hx hb dX12_noLived_53 rfl (lv_at hl 1 rfl) ?_
          obtain ⟨a11, e, hf⟩ := ob hf
          refine q_getR e B hw fd_12_34.1 fd_12_34.2.1 fd_12_34.2.2.1 fd_12_34.2.2.2.1 fd_12_34.2.2.2.2 rfl tw_6_77 dX12_noLived_54 ?_
          refine lv_iload_n hx hb dX12_noLived_57 rfl (lv_at hl 2 rfl) ?_
          obtain ⟨x12, e, hf⟩ := ob hf
          refine q_ldI e B hw dX12_noLived_58 ?_
          refine lv_aload_n hx hb dX12_noLived_59 rfl (lv_at hl 1 rfl) ?_
          obtain ⟨a13, e, hf⟩ := ob hf
          refine q_getR e B hw fd_12_1.1 fd_12_1.2.1 fd_12_1.2.2.1 fd_12_1.2.2.2.1 fd_12_1.2.2.2.2 rfl tw_6_44 dX12_noLived_60 ?_
          refine lv_iconst (v := 1) hx hb dX12_noLived_63 (by decide) ?_
          obtain ⟨x14, e, hf⟩ := ob hf
          refine q_ldI e B hw dX12_noLived_64 ?_
          refine lv_aload_n hx hb dX12_noLived_65 rfl (lv_at hl 1 rfl) ?_
          obtain ⟨a15, e, hf⟩ := ob hf
          refine q_getR e B hw fd_12_1.1 fd_12_1.2.1 fd_12_1.2.2.1 fd_12_1.2.2.2.1 fd_12_1.2.2.2.2 rfl tw_6_44 dX12_noLived_66 ?_
          refine lv_bipush (v := 18) hx hb dX12_noLived_69 (by decide) ?_
          refine lv_iload_n hx hb dX12_noLived_71 rfl (lv_at hl 3 rfl) ?_
          refine lv_iadd hx hb dX12_noLived_72 ?_
          obtain ⟨x16, e, hf⟩ := ob hf
          refine q_ldI e B hw dX12_noLived_73 ?_
          refine lv_isub hx hb dX12_noLived_74 ?_
          refine lv_icmp_le (tgt := 82) hx hb dX12_noLived_75 (by decide) (fun c17 => ?_) (fun c17 => ?_)
          · have hf := (if_pos c17).symm.trans hf
            refine lv_iconst (v := 0) hx hb dX12_noLived_82 (by decide) ?_
            refine lv_istore (lv' := [(4, .int 0), (3, .int x5), (0, .ref v0), (1, .int v1), (2, .int v2)]) hx hb dX12_noLived_83 hl (by decide) rfl (fun ls hl => ?_)
            exact w_X12_noLived_85 G B hz hc0 hr hlk  n v0 v1 0 _ _ _ hw (lv_sub hl [2, 3, 0] rfl) hf
          · have hf := (if_neg c17).symm.trans hf
            refine lv_ldcw hx hb B.2.2.2.1 (B.w tw_8_118 rfl) dX12_noLived_78 ?_
            obtain rfl := so hf
            exact q_iret B hw hz hc0 hr hlk dX12_noLived_81
      · have hf := (if_neg c6).symm.trans hf
        refine lv_iload_n hx hb dX12_noLived_34 rfl (lv_at hl 0 rfl) ?_
        obtain rfl := so hf
        exact q_iret B hw hz hc0 hr hlk dX12_noLived_35
    · have hf := (if_pos c4).symm.trans hf
      refine lv_ldc hx hb B.2.2.2.1 (B.w tw_7_39 rfl) dX12_noLived_21 ?_
      obtain rfl := so hf
      exact q_iret B hw hz hc0 hr hlk dX12_noLived_23
/-! SecondLifeModel.talentsOf(III)I -/
def f_X12_talentsOf_98 (n : Nat) (z : Sh) (k6 : Hp → Nat → Int32 → Int32 → Int32 → Int32 → Int32 → Option (Int32 × Hp)) (h : Hp) (v0 : Nat) (v1 : Int32) (v2 : Int32) (v3 : Int32) (v5 : Int32) (u0 : Int32) (u1 : Int32) : Option (Int32 × Hp) :=
  (some (u1 ||| u0)).bind fun x1 =>
  (some (v5 + 1)).bind fun x2 =>
  k6 h v0 v1 v2 v3 x1 x2
def f_X12_talentsOf_26 (n : Nat) (z : Sh) (k6 : Hp → Nat → Int32 → Int32 → Int32 → Int32 → Int32 → Option (Int32 × Hp)) : Nat → Hp → Nat → Int32 → Int32 → Int32 → Int32 → Int32 → Int32 → Int32 → Int32 → Option (Int32 × Hp)
  | 0, _, _, _, _, _, _, _, _, _, _ => none
  | i + 1, h, v0, v1, v2, v3, v4, v5, v6, v7, v8 =>
    (gR z h 12 v0 34).bind fun a1 =>
    (ldI z h a1 v1).bind fun x2 =>
    if x2 ≤ v8 then
      if v7 = v3 then
        f_X12_talentsOf_98 n z k6 h v0 v1 v2 v3 v5 ((1 : Int32) <<< (v5 &&& 31)) v4
      else
        f_X12_talentsOf_98 n z k6 h v0 v1 v2 v3 v5 0 v4
    else
      (gR z h 12 v0 35).bind fun a5 =>
      (ldJ z h a5 ((40 * v1) + v8)).bind fun x6 =>
      (some (Int64.toInt32 x6)).bind fun x7 =>
      (f_X12_worthOf n z h v0 v5 v6 x7).bind fun (x8, h9) =>
      (some (v7 + x8)).bind fun x10 =>
      (f_X12_livedTo z h9 v6 x7).bind fun x11 =>
      (some (v8 + 1)).bind fun x12 =>
      (f_X12_talentsOf_26 n z k6 i) h9 v0 v1 v2 v3 v4 v5 x11 x10 x12
def f_X12_talentsOf_6 (n : Nat) (z : Sh) : Nat → Hp → Nat → Int32 → Int32 → Int32 → Int32 → Int32 → Option (Int32 × Hp)
  | 0, _, _, _, _, _, _, _ => none
  | i + 1, h, v0, v1, v2, v3, v4, v5 =>
    if 10 ≤ v5 then
      some (v4, h)
    else
      (f_X12_standNow z h v0 v2).bind fun x2 =>
      f_X12_talentsOf_26 n z (f_X12_talentsOf_6 n z i) n h v0 v1 v2 v3 v4 v5 x2 0 0
def f_X12_talentsOf (n : Nat) (z : Sh) (h : Hp) (v0 : Nat) (v1 : Int32) (v2 : Int32) (v3 : Int32) : Option (Int32 × Hp) :=
  if z.K v0 = 12 then
    f_X12_talentsOf_6 n z n h v0 v1 v2 v3 0 0
  else none
theorem k_X12_talentsOf {n : Nat} {z : Sh} {h : Hp} {v0 : Nat} {v1 : Int32} {v2 : Int32} {v3 : Int32} {w : Int32 × Hp} (hf : f_X12_talentsOf n z h v0 v1 v2 v3 = some w) : z.K v0 = 12 := by
  unfold f_X12_talentsOf at hf
  exact (if_some hf).1
set_option maxHeartbeats 4000000 in
theorem w_X12_talentsOf_98 {p : Program} {l : Launch} {e : Env} {s : State} {m : MethodId} {args : Array Value} {below : List Frame} {meth : Method} {c : Code} {s0 : State} {E : Ev} {z : Sh} {n : Nat} {k6 : Hp → Nat → Int32 → Int32 → Int32 → Int32 → Int32 → Option (Int32 × Hp)} {r : Int32} {h' : Hp} (G : Gl s0 E) (B : Bd p s0 s E m c cX12_talentsOf 10 RX12) (hz : s0.heap.size ≤ z.sz) (hc0 : s.heap.size + 0 = z.sz) (hr : meth.sig.returnType = (some .int)) (hlk : meth.locks = false) (hk6 : ∀ (h : Hp) (v0 : Nat) (v1 : Int32) (v2 : Int32) (v3 : Int32) (v4 : Int32) (v5 : Int32) (H : Heap) (locs : List Loc) (ls : Array Slot), Pw s0 s E z h H locs → lv_has ls 10 [(0, .ref v0), (1, .int v1), (2, .int v2), (3, .int v3), (4, .int v4), (5, .int v5)] → k6 h v0 v1 v2 v3 v4 v5 = some (r, h') → W p l e (rmO 3 72) s m args below meth c H locs 0 0 (Zt below s0 E z h' (some (.int r)) args s 0 0) (F0 m 6 ls [])) : ∀ (h : Hp) (v0 : Nat) (v1 : Int32) (v2 : Int32) (v3 : Int32) (v5 : Int32) (u0 : Int32) (u1 : Int32) (H : Heap) (locs : List Loc) (ls : Array Slot), Pw s0 s E z h H locs → lv_has ls 10 [(0, .ref v0), (1, .int v1), (2, .int v2), (3, .int v3), (5, .int v5)] → f_X12_talentsOf_98 n z k6 h v0 v1 v2 v3 v5 u0 u1 = some (r, h') → W p l e (rmO 3 72) s m args below meth c H locs 0 0 (Zt below s0 E z h' (some (.int r)) args s 0 0) (F0 m 98 ls [.int u0, .int u1]) := by
  have hx := B.1
  have hb := B.2.1
  intro h v0 v1 v2 v3 v5 u0 u1 H locs ls hw hl hf
  unfold f_X12_talentsOf_98 at hf
  refine lv_ior hx hb dX12_talentsOf_98 ?_
  obtain ⟨x1, e, hf⟩ := ob hf
  refine q_nmI e ?_
  refine lv_istore (lv' := [(4, .int x1), (0, .ref v0), (1, .int v1), (2, .int v2), (3, .int v3), (5, .int v5)]) hx hb dX12_talentsOf_99 hl (by decide) rfl (fun ls hl => ?_)
  obtain ⟨x2, e, hf⟩ := ob hf
  refine lv_iinc (v := x2) (lv' := [(5, .int x2), (4, .int x1), (0, .ref v0), (1, .int v1), (2, .int v2), (3, .int v3)]) hx hb dX12_talentsOf_101 hl (k := 5) rfl (Option.some.inj e) (by decide) rfl (fun ls hl => ?_)
  refine lv_goto (tgt := 6) hx hb dX12_talentsOf_104 (by decide) ?_
  exact hk6 h v0 v1 v2 v3 x1 x2 _ _ _ hw (lv_sub hl [2, 3, 4, 5, 1, 0] rfl) hf
set_option maxHeartbeats 4000000 in
theorem w_X12_talentsOf_26 {p : Program} {l : Launch} {e : Env} {s : State} {m : MethodId} {args : Array Value} {below : List Frame} {meth : Method} {c : Code} {s0 : State} {E : Ev} {z : Sh} {n : Nat} {k6 : Hp → Nat → Int32 → Int32 → Int32 → Int32 → Int32 → Option (Int32 × Hp)} {r : Int32} {h' : Hp} (G : Gl s0 E) (B : Bd p s0 s E m c cX12_talentsOf 10 RX12) (hz : s0.heap.size ≤ z.sz) (hc0 : s.heap.size + 0 = z.sz) (hr : meth.sig.returnType = (some .int)) (hlk : meth.locks = false) (hk6 : ∀ (h : Hp) (v0 : Nat) (v1 : Int32) (v2 : Int32) (v3 : Int32) (v4 : Int32) (v5 : Int32) (H : Heap) (locs : List Loc) (ls : Array Slot), Pw s0 s E z h H locs → lv_has ls 10 [(0, .ref v0), (1, .int v1), (2, .int v2), (3, .int v3), (4, .int v4), (5, .int v5)] → k6 h v0 v1 v2 v3 v4 v5 = some (r, h') → W p l e (rmO 3 72) s m args below meth c H locs 0 0 (Zt below s0 E z h' (some (.int r)) args s 0 0) (F0 m 6 ls [])) : ∀ (i : Nat), ∀ (h : Hp) (v0 : Nat) (v1 : Int32) (v2 : Int32) (v3 : Int32) (v4 : Int32) (v5 : Int32) (v6 : Int32) (v7 : Int32) (v8 : Int32) (H : Heap) (locs : List Loc) (ls : Array Slot), Pw s0 s E z h H locs → lv_has ls 10 [(0, .ref v0), (1, .int v1), (2, .int v2), (3, .int v3), (4, .int v4), (5, .int v5), (6, .int v6), (7, .int v7), (8, .int v8)] → f_X12_talentsOf_26 n z k6 i h v0 v1 v2 v3 v4 v5 v6 v7 v8 = some (r, h') → W p l e (rmO 3 72) s m args below meth c H locs 0 0 (Zt below s0 E z h' (some (.int r)) args s 0 0) (F0 m 26 ls []) := by
  have hx := B.1
  have hb := B.2.1
  intro i
  induction i with
  | zero =>
    intro h v0 v1 v2 v3 v4 v5 v6 v7 v8 H locs ls hw hl hf
    have hf := (f_X12_talentsOf_26.eq_1 ..).symm.trans hf
    cases hf
  | succ i ih =>
    intro h v0 v1 v2 v3 v4 v5 v6 v7 v8 H locs ls hw hl hf
    have hf := (f_X12_talentsOf_26.eq_2 ..).symm.trans hf
    refine lv_iload hx hb dX12_talentsOf_26 (lv_at hl 8 rfl) ?_
    refine lv_aload_n hx hb dX12_talentsOf_28 rfl (lv_at hl 0 rfl) ?_
    obtain ⟨a1, e, hf⟩ := ob hf
    refine q_getR e B hw fd_12_34.1 fd_12_34.2.1 fd_12_34.2.2.1 fd_12_34.2.2.2.1 fd_12_34.2.2.2.2 rfl tw_6_77 dX12_talentsOf_29 ?_
    refine lv_iload_n hx hb dX12_talentsOf_32 rfl (lv_at hl 1 rfl) ?_
    obtain ⟨x2, e, hf⟩ := ob hf
    refine q_ldI e B hw dX12_talentsOf_33 ?_
    refine lv_icmp_ge (tgt := 82) hx hb dX12_talentsOf_34 (by decide) (fun c3 => ?_) (fun c3 => ?_)
    · have hf := (if_pos c3).symm.trans hf
      refine lv_iload hx hb dX12_talentsOf_82 (lv_at hl 4 rfl) ?_
      refine lv_iload hx hb dX12_talentsOf_84 (lv_at hl 7 rfl) ?_
      refine lv_iload_n hx hb dX12_talentsOf_86 rfl (lv_at hl 3 rfl) ?_
      refine lv_icmp_ne (tgt := 97) hx hb dX12_talentsOf_87 (by decide) (fun c4 => ?_) (fun c4 => ?_)
      · have hf := (if_neg c4).symm.trans hf
        refine lv_iconst (v := 0) hx hb dX12_talentsOf_97 (by decide) ?_
        exact w_X12_talentsOf_98 G B hz hc0 hr hlk hk6 h v0 v1 v2 v3 v5 0 v4 _ _ _ hw (lv_sub hl [0, 1, 2, 3, 5] rfl) hf
      · have hf := (if_pos c4).symm.trans hf
        refine lv_iconst (v := 1) hx hb dX12_talentsOf_90 (by decide) ?_
        refine lv_iload hx hb dX12_talentsOf_91 (lv_at hl 5 rfl) ?_
        refine lv_ishl hx hb dX12_talentsOf_93 ?_
        refine lv_goto (tgt := 98) hx hb dX12_talentsOf_94 (by decide) ?_
        exact w_X12_talentsOf_98 G B hz hc0 hr hlk hk6 h v0 v1 v2 v3 v5 ((1 : Int32) <<< (v5 &&& 31)) v4 _ _ _ hw (lv_sub hl [0, 1, 2, 3, 5] rfl) hf
    · have hf := (if_neg c3).symm.trans hf
      refine lv_aload_n hx hb dX12_talentsOf_37 rfl (lv_at hl 0 rfl) ?_
      obtain ⟨a5, e, hf⟩ := ob hf
      refine q_getR e B hw fd_12_35.1 fd_12_35.2.1 fd_12_35.2.2.1 fd_12_35.2.2.2.1 fd_12_35.2.2.2.2 rfl tw_6_78 dX12_talentsOf_38 ?_
      refine lv_bipush (v := 40) hx hb dX12_talentsOf_41 (by decide) ?_
      refine lv_iload_n hx hb dX12_talentsOf_43 rfl (lv_at hl 1 rfl) ?_
      refine lv_imul hx hb dX12_talentsOf_44 ?_
      refine lv_iload hx hb dX12_talentsOf_45 (lv_at hl 8 rfl) ?_
      refine lv_iadd hx hb dX12_talentsOf_47 ?_
      obtain ⟨x6, e, hf⟩ := ob hf
      refine q_ldJ e B hw dX12_talentsOf_48 ?_
      refine lv_l2i (v := (Int64.toInt32 x6)) hx hb dX12_talentsOf_49 rfl ?_
      obtain ⟨x7, e, hf⟩ := ob hf
      refine q_nmI e ?_
      refine lv_istore (lv' := [(9, .int x7), (0, .ref v0), (1, .int v1), (2, .int v2), (3, .int v3), (4, .int v4), (5, .int v5), (6, .int v6), (7, .int v7), (8, .int v8)]) hx hb dX12_talentsOf_50 hl (by decide) rfl (fun ls hl => ?_)
      refine lv_iload hx hb dX12_talentsOf_52 (lv_at hl 8 rfl) ?_
      refine lv_aload_n hx hb dX12_talentsOf_54 rfl (lv_at hl 1 rfl) ?_
      refine lv_iload hx hb dX12_talentsOf_55 (lv_at hl 6 rfl) ?_
      refine lv_iload hx hb dX12_talentsOf_57 (lv_at hl 7 rfl) ?_
      refine lv_iload hx hb dX12_talentsOf_59 (lv_at hl 0 rfl) ?_
      obtain ⟨⟨x8, h9⟩, e, hf⟩ := ob hf
      refine q_callV (As := [.int v5, .int v6, .int x7]) (rest := [.int v7]) (st1 := [.int x8, .int v7]) (c_X12_worthOf G e) B hw hz hc0 (k_X12_worthOf e) (by decide) (ci := 12) rfl rfl my_X12_worthOf mv_X12_worthOf tw_7_62 ⟨Nat.le_of_ble_eq_true rfl, Nat.le_of_ble_eq_true rfl⟩ ⟨Nat.zero_le _, Nat.zero_le _⟩ rfl hl.1 rfl rfl (Nat.le_of_ble_eq_true rfl) dX12_talentsOf_61 (fun H locs hw => ?_)
      refine lv_iadd hx hb dX12_talentsOf_64 ?_
      obtain ⟨x10, e, hf⟩ := ob hf
      refine q_nmI e ?_
      refine lv_istore (lv' := [(7, .int x10), (9, .int x7), (0, .ref v0), (1, .int v1), (2, .int v2), (3, .int v3), (4, .int v4), (5, .int v5), (6, .int v6), (8, .int v8)]) hx hb dX12_talentsOf_65 hl (by decide) rfl (fun ls hl => ?_)
      refine lv_iload hx hb dX12_talentsOf_67 (lv_at hl 8 rfl) ?_
      refine lv_iload hx hb dX12_talentsOf_69 (lv_at hl 1 rfl) ?_
      obtain ⟨x11, e, hf⟩ := ob hf
      refine q_callS (As := [.int v6, .int x7]) (rest := []) (st1 := [.int x11]) (c_X12_livedTo G e) B hw hz hc0 my_X12_livedTo mv_X12_livedTo tw_7_112 ⟨Nat.le_of_ble_eq_true rfl, Nat.le_of_ble_eq_true rfl⟩ ⟨Nat.zero_le _, Nat.zero_le _⟩ rfl hl.1 rfl rfl (Nat.le_of_ble_eq_true rfl) dX12_talentsOf_71 (fun H locs hw => ?_)
      refine lv_istore (lv' := [(6, .int x11), (7, .int x10), (9, .int x7), (0, .ref v0), (1, .int v1), (2, .int v2), (3, .int v3), (4, .int v4), (5, .int v5), (8, .int v8)]) hx hb dX12_talentsOf_74 hl (by decide) rfl (fun ls hl => ?_)
      obtain ⟨x12, e, hf⟩ := ob hf
      refine lv_iinc (v := x12) (lv' := [(8, .int x12), (6, .int x11), (7, .int x10), (9, .int x7), (0, .ref v0), (1, .int v1), (2, .int v2), (3, .int v3), (4, .int v4), (5, .int v5)]) hx hb dX12_talentsOf_76 hl (k := 9) rfl (Option.some.inj e) (by decide) rfl (fun ls hl => ?_)
      refine lv_goto (tgt := 26) hx hb dX12_talentsOf_79 (by decide) ?_
      exact ih h9 v0 v1 v2 v3 v4 v5 x11 x10 x12 _ _ _ hw (lv_sub hl [4, 5, 6, 7, 8, 9, 1, 2, 0] rfl) hf
set_option maxHeartbeats 4000000 in
theorem w_X12_talentsOf_6 {p : Program} {l : Launch} {e : Env} {s : State} {m : MethodId} {args : Array Value} {below : List Frame} {meth : Method} {c : Code} {s0 : State} {E : Ev} {z : Sh} {n : Nat} {r : Int32} {h' : Hp} (G : Gl s0 E) (B : Bd p s0 s E m c cX12_talentsOf 10 RX12) (hz : s0.heap.size ≤ z.sz) (hc0 : s.heap.size + 0 = z.sz) (hr : meth.sig.returnType = (some .int)) (hlk : meth.locks = false) : ∀ (i : Nat), ∀ (h : Hp) (v0 : Nat) (v1 : Int32) (v2 : Int32) (v3 : Int32) (v4 : Int32) (v5 : Int32) (H : Heap) (locs : List Loc) (ls : Array Slot), Pw s0 s E z h H locs → lv_has ls 10 [(0, .ref v0), (1, .int v1), (2, .int v2), (3, .int v3), (4, .int v4), (5, .int v5)] → f_X12_talentsOf_6 n z i h v0 v1 v2 v3 v4 v5 = some (r, h') → W p l e (rmO 3 72) s m args below meth c H locs 0 0 (Zt below s0 E z h' (some (.int r)) args s 0 0) (F0 m 6 ls []) := by
  have hx := B.1
  have hb := B.2.1
  intro i
  induction i with
  | zero =>
    intro h v0 v1 v2 v3 v4 v5 H locs ls hw hl hf
    have hf := (f_X12_talentsOf_6.eq_1 ..).symm.trans hf
    cases hf
  | succ i ih =>
    intro h v0 v1 v2 v3 v4 v5 H locs ls hw hl hf
    have hf := (f_X12_talentsOf_6.eq_2 ..).symm.trans hf
    refine lv_iload hx hb dX12_talentsOf_6 (lv_at hl 5 rfl) ?_
    refine lv_bipush (v := 10) hx hb dX12_talentsOf_8 (by decide) ?_
    refine lv_icmp_ge (tgt := 107) hx hb dX12_talentsOf_10 (by decide) (fun c1 => ?_) (fun c1 => ?_)
    · have hf := (if_pos c1).symm.trans hf
      refine lv_iload hx hb dX12_talentsOf_107 (lv_at hl 4 rfl) ?_
      obtain ⟨rfl, rfl⟩ := so2 hf
      exact q_iret B hw hz hc0 hr hlk dX12_talentsOf_109
    · have hf := (if_neg c1).symm.trans hf
      refine lv_aload_n hx hb dX12_talentsOf_13 rfl (lv_at hl 0 rfl) ?_
      refine lv_iload_n hx hb dX12_talentsOf_14 rfl (lv_at hl 2 rfl) ?_
      obtain ⟨x2, e, hf⟩ := ob hf
      refine q_callV (As := [.int v2]) (rest := []) (st1 := [.int x2]) (c_X12_standNow G e) B hw hz hc0 (k_X12_standNow e) (by decide) (ci := 12) rfl rfl my_X12_standNow mv_X12_standNow tw_7_48 ⟨Nat.le_of_ble_eq_true rfl, Nat.le_of_ble_eq_true rfl⟩ ⟨Nat.zero_le _, Nat.zero_le _⟩ rfl hl.1 rfl rfl (Nat.le_of_ble_eq_true rfl) dX12_talentsOf_15 (fun H locs hw => ?_)
      refine lv_istore (lv' := [(6, .int x2), (0, .ref v0), (1, .int v1), (2, .int v2), (3, .int v3), (4, .int v4), (5, .int v5)]) hx hb dX12_talentsOf_18 hl (by decide) rfl (fun ls hl => ?_)
      refine lv_iconst (v := 0) hx hb dX12_talentsOf_20 (by decide) ?_
      refine lv_istore (lv' := [(7, .int 0), (6, .int x2), (0, .ref v0), (1, .int v1), (2, .int v2), (3, .int v3), (4, .int v4), (5, .int v5)]) hx hb dX12_talentsOf_21 hl (by decide) rfl (fun ls hl => ?_)
      refine lv_iconst (v := 0) hx hb dX12_talentsOf_23 (by decide) ?_
      refine lv_istore (lv' := [(8, .int 0), (7, .int 0), (6, .int x2), (0, .ref v0), (1, .int v1), (2, .int v2), (3, .int v3), (4, .int v4), (5, .int v5)]) hx hb dX12_talentsOf_24 hl (by decide) rfl (fun ls hl => ?_)
      exact w_X12_talentsOf_26 G B hz hc0 hr hlk ih n h v0 v1 v2 v3 v4 v5 x2 0 0 _ _ _ hw (lv_sub hl [3, 4, 5, 6, 7, 8, 2, 1, 0] rfl) hf
set_option maxHeartbeats 4000000 in
theorem c_X12_talentsOf {l : Launch} {s0 : State} {E : Ev} (G : Gl s0 E) {n : Nat} {z : Sh} {h : Hp} {v0 : Nat} {v1 : Int32} {v2 : Int32} {v3 : Int32} {r : Int32} {h' : Hp} (hf : f_X12_talentsOf n z h v0 v1 v2 v3 = some (r, h')) : Ct l s0 E yX12_talentsOf cX12_talentsOf 10 (some .int) 3 72 [.ref v0, .int v1, .int v2, .int v3] z h h' (some (.int r)) := by
  refine Ct.of G (by decide) (Nat.le_of_ble_eq_true rfl) ?_
  intro p e s m below meth c ls B hw hz hc0 hr hlk hl
  have B : Bd p s0 s E m c cX12_talentsOf 10 RX12 := B
  have hx := B.1
  have hb := B.2.1
  have hl : lv_has ls 10 [(0, .ref v0), (1, .int v1), (2, .int v2), (3, .int v3)] := hl
  unfold f_X12_talentsOf at hf
  obtain ⟨_, hf⟩ := if_some hf
  refine lv_iconst (v := 0) hx hb dX12_talentsOf_0 (by decide) ?_
  refine lv_istore (lv' := [(4, .int 0), (0, .ref v0), (1, .int v1), (2, .int v2), (3, .int v3)]) hx hb dX12_talentsOf_1 hl (by decide) rfl (fun ls hl => ?_)
  refine lv_iconst (v := 0) hx hb dX12_talentsOf_3 (by decide) ?_
  refine lv_istore (lv' := [(5, .int 0), (4, .int 0), (0, .ref v0), (1, .int v1), (2, .int v2), (3, .int v3)]) hx hb dX12_talentsOf_4 hl (by decide) rfl (fun ls hl => ?_)
  exact w_X12_talentsOf_6 G B hz hc0 hr hlk  n h v0 v1 v2 v3 0 0 _ _ _ hw (lv_sub hl [2, 3, 4, 5, 1, 0] rfl) hf
/-! SecondLifeModel.talents(III)I -/
def f_X12_talents (n : Nat) (z : Sh) (h : Hp) (v0 : Nat) (v1 : Int32) (v2 : Int32) (v3 : Int32) : Option (Int32 × Hp) :=
  if z.K v0 = 12 then
    (pI z h 12 v0 0 0).bind fun h1 =>
    (f_X12_noLived n z h1 v0 v1 v2).bind fun x2 =>
    if x2 = 0 then
      (f_X12_talentsOf n z h1 v0 v1 v2 v3).bind fun (x4, h5) =>
      some (x4, h5)
    else
      some (x2, h1)
  else none
theorem k_X12_talents {n : Nat} {z : Sh} {h : Hp} {v0 : Nat} {v1 : Int32} {v2 : Int32} {v3 : Int32} {w : Int32 × Hp} (hf : f_X12_talents n z h v0 v1 v2 v3 = some w) : z.K v0 = 12 := by
  unfold f_X12_talents at hf
  exact (if_some hf).1
set_option maxHeartbeats 4000000 in
theorem c_X12_talents {l : Launch} {s0 : State} {E : Ev} (G : Gl s0 E) {n : Nat} {z : Sh} {h : Hp} {v0 : Nat} {v1 : Int32} {v2 : Int32} {v3 : Int32} {r : Int32} {h' : Hp} (hf : f_X12_talents n z h v0 v1 v2 v3 = some (r, h')) : Ct l s0 E yX12_talents cX12_talents 5 (some .int) 4 101 [.ref v0, .int v1, .int v2, .int v3] z h h' (some (.int r)) := by
  refine Ct.of G (by decide) (Nat.le_of_ble_eq_true rfl) ?_
  intro p e s m below meth c ls B hw hz hc0 hr hlk hl
  have B : Bd p s0 s E m c cX12_talents 5 RX12 := B
  have hx := B.1
  have hb := B.2.1
  have hl : lv_has ls 5 [(0, .ref v0), (1, .int v1), (2, .int v2), (3, .int v3)] := hl
  unfold f_X12_talents at hf
  obtain ⟨_, hf⟩ := if_some hf
  refine lv_aload_n hx hb dX12_talents_0 rfl (lv_at hl 0 rfl) ?_
  refine lv_iconst (v := 0) hx hb dX12_talents_1 (by decide) ?_
  obtain ⟨h1, e, hf⟩ := ob hf
  refine q_putI e B hw fd_12_0.1 fd_12_0.2.1 fd_12_0.2.2.1 fd_12_0.2.2.2.1 fd_12_0.2.2.2.2 rfl rfl (tyX12_ok 0 (by decide)) tyX12 tyX12_ok nmX12 tw_6_43 dX12_talents_2 (fun H locs hw => ?_)
  refine lv_aload_n hx hb dX12_talents_5 rfl (lv_at hl 0 rfl) ?_
  refine lv_iload_n hx hb dX12_talents_6 rfl (lv_at hl 1 rfl) ?_
  refine lv_iload_n hx hb dX12_talents_7 rfl (lv_at hl 2 rfl) ?_
  obtain ⟨x2, e, hf⟩ := ob hf
  refine q_callV (As := [.int v1, .int v2]) (rest := []) (st1 := [.int x2]) (c_X12_noLived G e) B hw hz hc0 (k_X12_noLived e) (by decide) (ci := 12) rfl rfl my_X12_noLived mv_X12_noLived tw_8_113 ⟨Nat.le_of_ble_eq_true rfl, Nat.le_of_ble_eq_true rfl⟩ ⟨Nat.zero_le _, Nat.zero_le _⟩ rfl hl.1 rfl rfl (Nat.le_of_ble_eq_true rfl) dX12_talents_8 (fun H locs hw => ?_)
  refine lv_istore (lv' := [(4, .int x2), (0, .ref v0), (1, .int v1), (2, .int v2), (3, .int v3)]) hx hb dX12_talents_11 hl (by decide) rfl (fun ls hl => ?_)
  refine lv_iload hx hb dX12_talents_13 (lv_at hl 0 rfl) ?_
  refine lv_if_eq (tgt := 23) hx hb dX12_talents_15 (by decide) (fun c3 => ?_) (fun c3 => ?_)
  · have hf := (if_pos c3).symm.trans hf
    refine lv_aload_n hx hb dX12_talents_23 rfl (lv_at hl 1 rfl) ?_
    refine lv_iload_n hx hb dX12_talents_24 rfl (lv_at hl 2 rfl) ?_
    refine lv_iload_n hx hb dX12_talents_25 rfl (lv_at hl 3 rfl) ?_
    refine lv_iload_n hx hb dX12_talents_26 rfl (lv_at hl 4 rfl) ?_
    obtain ⟨⟨x4, h5⟩, e, hf⟩ := ob hf
    refine q_callV (As := [.int v1, .int v2, .int v3]) (rest := []) (st1 := [.int x4]) (c_X12_talentsOf G e) B hw hz hc0 (k_X12_talentsOf e) (by decide) (ci := 12) rfl rfl my_X12_talentsOf mv_X12_talentsOf tw_8_119 ⟨Nat.le_of_ble_eq_true rfl, Nat.le_of_ble_eq_true rfl⟩ ⟨Nat.zero_le _, Nat.zero_le _⟩ rfl hl.1 rfl rfl (Nat.le_of_ble_eq_true rfl) dX12_talents_27 (fun H locs hw => ?_)
    obtain ⟨rfl, rfl⟩ := so2 hf
    exact q_iret B hw hz hc0 hr hlk dX12_talents_30
  · have hf := (if_neg c3).symm.trans hf
    refine lv_iload hx hb dX12_talents_18 (lv_at hl 0 rfl) ?_
    refine lv_goto (tgt := 30) hx hb dX12_talents_20 (by decide) ?_
    obtain ⟨rfl, rfl⟩ := so2 hf
    exact q_iret B hw hz hc0 hr hlk dX12_talents_30
