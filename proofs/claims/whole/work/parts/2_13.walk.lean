/-! SecondLifeModel.spark(I)I -/
def f_X12_spark_67 (n : Nat) (z : Sh) (k24 : Hp → Nat → Int32 → Int32 → Int32 → Option (Int32 × Hp)) (h : Hp) (v0 : Nat) (v1 : Int32) (v2 : Int32) (v3 : Int32) : Option (Int32 × Hp) :=
  (some (v3 + 1)).bind fun x1 =>
  k24 h v0 v1 v2 x1
def f_X12_spark_52 (n : Nat) (z : Sh) (k24 : Hp → Nat → Int32 → Int32 → Int32 → Option (Int32 × Hp)) (h : Hp) (v0 : Nat) (v1 : Int32) (v2 : Int32) (v3 : Int32) : Option (Int32 × Hp) :=
  (f_X12_runOf n z h v0 v3 0).bind fun (x1, h2) =>
  (f_X12_bitsOf n z h2 x1).bind fun x3 =>
  if x3 < v1 then
    f_X12_spark_67 n z k24 h2 v0 v1 v2 v3
  else
    f_X12_spark_67 n z k24 h2 v0 v1 v3 v3
def f_X12_spark_24 (n : Nat) (z : Sh) : Nat → Hp → Nat → Int32 → Int32 → Int32 → Option (Int32 × Hp)
  | 0, _, _, _, _, _ => none
  | i + 1, h, v0, v1, v2, v3 =>
    (gR z h 12 v0 1).bind fun a1 =>
    (ldI z h a1 3).bind fun x2 =>
    if ((1 : Int32) <<< (x2 &&& 31)) ≤ v3 then
      some (v2, h)
    else
      if v2 = (-1) then
        f_X12_spark_52 n z (f_X12_spark_24 n z i) h v0 v1 v2 v3
      else
        (f_X12_bitsOf n z h v3).bind fun x5 =>
        (f_X12_bitsOf n z h v2).bind fun x6 =>
        if x6 ≤ x5 then
          f_X12_spark_67 n z (f_X12_spark_24 n z i) h v0 v1 v2 v3
        else
          f_X12_spark_52 n z (f_X12_spark_24 n z i) h v0 v1 v2 v3
def f_X12_spark (n : Nat) (z : Sh) (h : Hp) (v0 : Nat) (v1 : Int32) : Option (Int32 × Hp) :=
  if z.K v0 = 12 then
    (pI z h 12 v0 0 0).bind fun h1 =>
    (f_X12_within z h1 (Int32.toInt64 v1) 1 6).bind fun x2 =>
    if x2 = 0 then
      some (((-99000003) : Int32), h1)
    else
      f_X12_spark_24 n z n h1 v0 v1 (-1) 0
  else none
theorem k_X12_spark {n : Nat} {z : Sh} {h : Hp} {v0 : Nat} {v1 : Int32} {w : Int32 × Hp} (hf : f_X12_spark n z h v0 v1 = some w) : z.K v0 = 12 := by
  unfold f_X12_spark at hf
  exact (if_some hf).1
set_option maxHeartbeats 4000000 in
theorem w_X12_spark_67 {p : Program} {l : Launch} {e : Env} {s : State} {m : MethodId} {args : Array Value} {below : List Frame} {meth : Method} {c : Code} {s0 : State} {E : Ev} {z : Sh} {n : Nat} {k24 : Hp → Nat → Int32 → Int32 → Int32 → Option (Int32 × Hp)} {r : Int32} {h' : Hp} (G : Gl s0 E) (B : Bd p s0 s E m c cX12_spark 4 RX12) (hz : s0.heap.size ≤ z.sz) (hc0 : s.heap.size + 0 = z.sz) (hr : meth.sig.returnType = (some .int)) (hlk : meth.locks = false) (hk24 : ∀ (h : Hp) (v0 : Nat) (v1 : Int32) (v2 : Int32) (v3 : Int32) (H : Heap) (locs : List Loc) (ls : Array Slot), Pw s0 s E z h H locs → lv_has ls 4 [(0, .ref v0), (1, .int v1), (2, .int v2), (3, .int v3)] → k24 h v0 v1 v2 v3 = some (r, h') → W p l e (rmO 3 69) s m args below meth c H locs 0 0 (Zt below s0 E z h' (some (.int r)) args s 0 0) (F0 m 24 ls [])) : ∀ (h : Hp) (v0 : Nat) (v1 : Int32) (v2 : Int32) (v3 : Int32) (H : Heap) (locs : List Loc) (ls : Array Slot), Pw s0 s E z h H locs → lv_has ls 4 [(0, .ref v0), (1, .int v1), (2, .int v2), (3, .int v3)] → f_X12_spark_67 n z k24 h v0 v1 v2 v3 = some (r, h') → W p l e (rmO 3 69) s m args below meth c H locs 0 0 (Zt below s0 E z h' (some (.int r)) args s 0 0) (F0 m 67 ls []) := by
  have hx := B.1
  have hb := B.2.1
  intro h v0 v1 v2 v3 H locs ls hw hl hf
  unfold f_X12_spark_67 at hf
  obtain ⟨x1, e, hf⟩ := ob hf
  refine lv_iinc (v := x1) (lv' := [(3, .int x1), (0, .ref v0), (1, .int v1), (2, .int v2)]) hx hb dX12_spark_67 hl (k := 3) rfl (Option.some.inj e) (by decide) rfl (fun ls hl => ?_)
  refine lv_goto (tgt := 24) hx hb dX12_spark_70 (by decide) ?_
  exact hk24 h v0 v1 v2 x1 _ _ _ hw (lv_sub hl [1, 2, 3, 0] rfl) hf
set_option maxHeartbeats 4000000 in
theorem w_X12_spark_52 {p : Program} {l : Launch} {e : Env} {s : State} {m : MethodId} {args : Array Value} {below : List Frame} {meth : Method} {c : Code} {s0 : State} {E : Ev} {z : Sh} {n : Nat} {k24 : Hp → Nat → Int32 → Int32 → Int32 → Option (Int32 × Hp)} {r : Int32} {h' : Hp} (G : Gl s0 E) (B : Bd p s0 s E m c cX12_spark 4 RX12) (hz : s0.heap.size ≤ z.sz) (hc0 : s.heap.size + 0 = z.sz) (hr : meth.sig.returnType = (some .int)) (hlk : meth.locks = false) (hk24 : ∀ (h : Hp) (v0 : Nat) (v1 : Int32) (v2 : Int32) (v3 : Int32) (H : Heap) (locs : List Loc) (ls : Array Slot), Pw s0 s E z h H locs → lv_has ls 4 [(0, .ref v0), (1, .int v1), (2, .int v2), (3, .int v3)] → k24 h v0 v1 v2 v3 = some (r, h') → W p l e (rmO 3 69) s m args below meth c H locs 0 0 (Zt below s0 E z h' (some (.int r)) args s 0 0) (F0 m 24 ls [])) : ∀ (h : Hp) (v0 : Nat) (v1 : Int32) (v2 : Int32) (v3 : Int32) (H : Heap) (locs : List Loc) (ls : Array Slot), Pw s0 s E z h H locs → lv_has ls 4 [(0, .ref v0), (1, .int v1), (2, .int v2), (3, .int v3)] → f_X12_spark_52 n z k24 h v0 v1 v2 v3 = some (r, h') → W p l e (rmO 3 69) s m args below meth c H locs 0 0 (Zt below s0 E z h' (some (.int r)) args s 0 0) (F0 m 52 ls []) := by
  have hx := B.1
  have hb := B.2.1
  intro h v0 v1 v2 v3 H locs ls hw hl hf
  unfold f_X12_spark_52 at hf
  refine lv_aload_n hx hb dX12_spark_52 rfl (lv_at hl 0 rfl) ?_
  refine lv_iload_n hx hb dX12_spark_53 rfl (lv_at hl 3 rfl) ?_
  refine lv_iconst (v := 0) hx hb dX12_spark_54 (by decide) ?_
  obtain ⟨⟨x1, h2⟩, e, hf⟩ := ob hf
  refine q_callV (As := [.int v3, .int 0]) (rest := []) (st1 := [.int x1]) (c_X12_runOf G e) B hw hz hc0 (k_X12_runOf e) (by decide) (ci := 12) rfl rfl my_X12_runOf mv_X12_runOf tw_8_142 ⟨Nat.le_of_ble_eq_true rfl, Nat.le_of_ble_eq_true rfl⟩ ⟨Nat.zero_le _, Nat.zero_le _⟩ rfl hl.1 rfl rfl (Nat.le_of_ble_eq_true rfl) dX12_spark_55 (fun H locs hw => ?_)
  obtain ⟨x3, e, hf⟩ := ob hf
  refine q_callS (As := [.int x1]) (rest := []) (st1 := [.int x3]) (c_X12_bitsOf G e) B hw hz hc0 my_X12_bitsOf mv_X12_bitsOf tw_8_150 ⟨Nat.le_of_ble_eq_true rfl, Nat.le_of_ble_eq_true rfl⟩ ⟨Nat.zero_le _, Nat.zero_le _⟩ rfl hl.1 rfl rfl (Nat.le_of_ble_eq_true rfl) dX12_spark_58 (fun H locs hw => ?_)
  refine lv_iload_n hx hb dX12_spark_61 rfl (lv_at hl 1 rfl) ?_
  refine lv_icmp_lt (tgt := 67) hx hb dX12_spark_62 (by decide) (fun c4 => ?_) (fun c4 => ?_)
  · have hf := (if_pos c4).symm.trans hf
    exact w_X12_spark_67 G B hz hc0 hr hlk hk24 h2 v0 v1 v2 v3 _ _ _ hw (lv_sub hl [0, 1, 2, 3] rfl) hf
  · have hf := (if_neg c4).symm.trans hf
    refine lv_iload_n hx hb dX12_spark_65 rfl (lv_at hl 3 rfl) ?_
    refine lv_istore_n (lv' := [(2, .int v3), (0, .ref v0), (1, .int v1), (3, .int v3)]) hx hb dX12_spark_66 rfl hl (by decide) rfl (fun ls hl => ?_)
    exact w_X12_spark_67 G B hz hc0 hr hlk hk24 h2 v0 v1 v3 v3 _ _ _ hw (lv_sub hl [1, 2, 0, 3] rfl) hf
set_option maxHeartbeats 4000000 in
theorem w_X12_spark_24 {p : Program} {l : Launch} {e : Env} {s : State} {m : MethodId} {args : Array Value} {below : List Frame} {meth : Method} {c : Code} {s0 : State} {E : Ev} {z : Sh} {n : Nat} {r : Int32} {h' : Hp} (G : Gl s0 E) (B : Bd p s0 s E m c cX12_spark 4 RX12) (hz : s0.heap.size ≤ z.sz) (hc0 : s.heap.size + 0 = z.sz) (hr : meth.sig.returnType = (some .int)) (hlk : meth.locks = false) : ∀ (i : Nat), ∀ (h : Hp) (v0 : Nat) (v1 : Int32) (v2 : Int32) (v3 : Int32) (H : Heap) (locs : List Loc) (ls : Array Slot), Pw s0 s E z h H locs → lv_has ls 4 [(0, .ref v0), (1, .int v1), (2, .int v2), (3, .int v3)] → f_X12_spark_24 n z i h v0 v1 v2 v3 = some (r, h') → W p l e (rmO 3 69) s m args below meth c H locs 0 0 (Zt below s0 E z h' (some (.int r)) args s 0 0) (F0 m 24 ls []) := by
  have hx := B.1
  have hb := B.2.1
  intro i
  induction i with
  | zero =>
    intro h v0 v1 v2 v3 H locs ls hw hl hf
    have hf := (f_X12_spark_24.eq_1 ..).symm.trans hf
    cases hf
  | succ i ih =>
    intro h v0 v1 v2 v3 H locs ls hw hl hf
    have hf := (f_X12_spark_24.eq_2 ..).symm.trans hf
    refine lv_iload_n hx hb dX12_spark_24 rfl (lv_at hl 3 rfl) ?_
    refine lv_iconst (v := 1) hx hb dX12_spark_25 (by decide) ?_
    refine lv_aload_n hx hb dX12_spark_26 rfl (lv_at hl 0 rfl) ?_
    obtain ⟨a1, e, hf⟩ := ob hf
    refine q_getR e B hw fd_12_1.1 fd_12_1.2.1 fd_12_1.2.2.1 fd_12_1.2.2.2.1 fd_12_1.2.2.2.2 rfl tw_6_44 dX12_spark_27 ?_
    refine lv_iconst (v := 3) hx hb dX12_spark_30 (by decide) ?_
    obtain ⟨x2, e, hf⟩ := ob hf
    refine q_ldI e B hw dX12_spark_31 ?_
    refine lv_ishl hx hb dX12_spark_32 ?_
    refine lv_icmp_ge (tgt := 73) hx hb dX12_spark_33 (by decide) (fun c3 => ?_) (fun c3 => ?_)
    · have hf := (if_pos c3).symm.trans hf
      refine lv_iload_n hx hb dX12_spark_73 rfl (lv_at hl 2 rfl) ?_
      obtain ⟨rfl, rfl⟩ := so2 hf
      exact q_iret B hw hz hc0 hr hlk dX12_spark_74
    · have hf := (if_neg c3).symm.trans hf
      refine lv_iload_n hx hb dX12_spark_36 rfl (lv_at hl 2 rfl) ?_
      refine lv_iconst (v := (-1)) hx hb dX12_spark_37 (by decide) ?_
      refine lv_icmp_eq (tgt := 52) hx hb dX12_spark_38 (by decide) (fun c4 => ?_) (fun c4 => ?_)
      · have hf := (if_pos c4).symm.trans hf
        exact w_X12_spark_52 G B hz hc0 hr hlk ih h v0 v1 v2 v3 _ _ _ hw (lv_sub hl [0, 1, 2, 3] rfl) hf
      · have hf := (if_neg c4).symm.trans hf
        refine lv_iload_n hx hb dX12_spark_41 rfl (lv_at hl 3 rfl) ?_
        obtain ⟨x5, e, hf⟩ := ob hf
        refine q_callS (As := [.int v3]) (rest := []) (st1 := [.int x5]) (c_X12_bitsOf G e) B hw hz hc0 my_X12_bitsOf mv_X12_bitsOf tw_8_150 ⟨Nat.le_of_ble_eq_true rfl, Nat.le_of_ble_eq_true rfl⟩ ⟨Nat.zero_le _, Nat.zero_le _⟩ rfl hl.1 rfl rfl (Nat.le_of_ble_eq_true rfl) dX12_spark_42 (fun H locs hw => ?_)
        refine lv_iload_n hx hb dX12_spark_45 rfl (lv_at hl 2 rfl) ?_
        obtain ⟨x6, e, hf⟩ := ob hf
        refine q_callS (As := [.int v2]) (rest := [.int x5]) (st1 := [.int x6, .int x5]) (c_X12_bitsOf G e) B hw hz hc0 my_X12_bitsOf mv_X12_bitsOf tw_8_150 ⟨Nat.le_of_ble_eq_true rfl, Nat.le_of_ble_eq_true rfl⟩ ⟨Nat.zero_le _, Nat.zero_le _⟩ rfl hl.1 rfl rfl (Nat.le_of_ble_eq_true rfl) dX12_spark_46 (fun H locs hw => ?_)
        refine lv_icmp_ge (tgt := 67) hx hb dX12_spark_49 (by decide) (fun c7 => ?_) (fun c7 => ?_)
        · have hf := (if_pos c7).symm.trans hf
          exact w_X12_spark_67 G B hz hc0 hr hlk ih h v0 v1 v2 v3 _ _ _ hw (lv_sub hl [0, 1, 2, 3] rfl) hf
        · have hf := (if_neg c7).symm.trans hf
          exact w_X12_spark_52 G B hz hc0 hr hlk ih h v0 v1 v2 v3 _ _ _ hw (lv_sub hl [0, 1, 2, 3] rfl) hf
set_option maxHeartbeats 4000000 in
theorem c_X12_spark {l : Launch} {s0 : State} {E : Ev} (G : Gl s0 E) {n : Nat} {z : Sh} {h : Hp} {v0 : Nat} {v1 : Int32} {r : Int32} {h' : Hp} (hf : f_X12_spark n z h v0 v1 = some (r, h')) : Ct l s0 E yX12_spark cX12_spark 4 (some .int) 3 69 [.ref v0, .int v1] z h h' (some (.int r)) := by
  refine Ct.of G (by decide) (Nat.le_of_ble_eq_true rfl) ?_
  intro p e s m below meth c ls B hw hz hc0 hr hlk hl
  have B : Bd p s0 s E m c cX12_spark 4 RX12 := B
  have hx := B.1
  have hb := B.2.1
  have hl : lv_has ls 4 [(0, .ref v0), (1, .int v1)] := hl
  unfold f_X12_spark at hf
  obtain ⟨_, hf⟩ := if_some hf
  refine lv_aload_n hx hb dX12_spark_0 rfl (lv_at hl 0 rfl) ?_
  refine lv_iconst (v := 0) hx hb dX12_spark_1 (by decide) ?_
  obtain ⟨h1, e, hf⟩ := ob hf
  refine q_putI e B hw fd_12_0.1 fd_12_0.2.1 fd_12_0.2.2.1 fd_12_0.2.2.2.1 fd_12_0.2.2.2.2 rfl rfl (tyX12_ok 0 (by decide)) tyX12 tyX12_ok nmX12 tw_6_43 dX12_spark_2 (fun H locs hw => ?_)
  refine lv_iload_n hx hb dX12_spark_5 rfl (lv_at hl 1 rfl) ?_
  refine lv_i2l (v := (Int32.toInt64 v1)) hx hb dX12_spark_6 rfl ?_
  refine lv_lconst (v := 1) hx hb dX12_spark_7 (by decide) ?_
  refine lv_ldc2 hx hb B.2.2.2.1 (B.w tw_8_161 rfl) dX12_spark_8 ?_
  obtain ⟨x2, e, hf⟩ := ob hf
  refine q_callS (As := [.long (Int32.toInt64 v1), .long 1, .long 6]) (rest := []) (st1 := [.int x2]) (c_X12_within G e) B hw hz hc0 my_X12_within mv_X12_within tw_6_162 ⟨Nat.le_of_ble_eq_true rfl, Nat.le_of_ble_eq_true rfl⟩ ⟨Nat.zero_le _, Nat.zero_le _⟩ rfl hl.1 rfl rfl (Nat.le_of_ble_eq_true rfl) dX12_spark_11 (fun H locs hw => ?_)
  refine lv_if_ne (tgt := 20) hx hb dX12_spark_14 (by decide) (fun c3 => ?_) (fun c3 => ?_)
  · have hf := (if_neg c3).symm.trans hf
    refine lv_iconst (v := (-1)) hx hb dX12_spark_20 (by decide) ?_
    refine lv_istore_n (lv' := [(2, .int (-1)), (0, .ref v0), (1, .int v1)]) hx hb dX12_spark_21 rfl hl (by decide) rfl (fun ls hl => ?_)
    refine lv_iconst (v := 0) hx hb dX12_spark_22 (by decide) ?_
    refine lv_istore_n (lv' := [(3, .int 0), (2, .int (-1)), (0, .ref v0), (1, .int v1)]) hx hb dX12_spark_23 rfl hl (by decide) rfl (fun ls hl => ?_)
    exact w_X12_spark_24 G B hz hc0 hr hlk  n h1 v0 v1 (-1) 0 _ _ _ hw (lv_sub hl [2, 3, 1, 0] rfl) hf
  · have hf := (if_pos c3).symm.trans hf
    refine lv_ldc hx hb B.2.2.2.1 (B.w tw_6_165 rfl) dX12_spark_17 ?_
    obtain ⟨rfl, rfl⟩ := so2 hf
    exact q_iret B hw hz hc0 hr hlk dX12_spark_19
/-! SecondLifeModel.calm(II)I -/
def f_X12_calm_90 (n : Nat) (z : Sh) (k33 : Hp → Nat → Int32 → Int32 → Int32 → Int32 → Option (Int32 × Hp)) (h : Hp) (v0 : Nat) (v1 : Int32) (v2 : Int32) (v3 : Int32) (v4 : Int32) : Option (Int32 × Hp) :=
  (some (v4 + 1)).bind fun x1 =>
  k33 h v0 v1 v2 v3 x1
def f_X12_calm_73 (n : Nat) (z : Sh) (k33 : Hp → Nat → Int32 → Int32 → Int32 → Int32 → Option (Int32 × Hp)) (h : Hp) (v0 : Nat) (v1 : Int32) (v2 : Int32) (v3 : Int32) (v4 : Int32) : Option (Int32 × Hp) :=
  (f_X12_runOf n z h v0 v1 v4).bind fun (x1, h2) =>
  (f_X12_bitsOf n z h2 x1).bind fun x3 =>
  if v2 < x3 then
    f_X12_calm_90 n z k33 h2 v0 v1 v2 v3 v4
  else
    f_X12_calm_90 n z k33 h2 v0 v1 v2 v4 v4
def f_X12_calm_33 (n : Nat) (z : Sh) : Nat → Hp → Nat → Int32 → Int32 → Int32 → Int32 → Option (Int32 × Hp)
  | 0, _, _, _, _, _, _ => none
  | i + 1, h, v0, v1, v2, v3, v4 =>
    (gR z h 12 v0 1).bind fun a1 =>
    (ldI z h a1 3).bind fun x2 =>
    if ((1 : Int32) <<< (x2 &&& 31)) ≤ v4 then
      some (v3, h)
    else
      if (v4 &&& v1) = 0 then
        if v3 = (-1) then
          f_X12_calm_73 n z (f_X12_calm_33 n z i) h v0 v1 v2 v3 v4
        else
          (f_X12_bitsOf n z h v4).bind fun x6 =>
          (f_X12_bitsOf n z h v3).bind fun x7 =>
          if x6 < x7 then
            f_X12_calm_73 n z (f_X12_calm_33 n z i) h v0 v1 v2 v3 v4
          else
            f_X12_calm_90 n z (f_X12_calm_33 n z i) h v0 v1 v2 v3 v4
      else
        f_X12_calm_90 n z (f_X12_calm_33 n z i) h v0 v1 v2 v3 v4
def f_X12_calm (n : Nat) (z : Sh) (h : Hp) (v0 : Nat) (v1 : Int32) (v2 : Int32) : Option (Int32 × Hp) :=
  if z.K v0 = 12 then
    (pI z h 12 v0 0 0).bind fun h1 =>
    (f_X12_isSet z h1 v0 v1).bind fun x2 =>
    if x2 = 0 then
      some (((-99000003) : Int32), h1)
    else
      (f_X12_within z h1 (Int32.toInt64 v2) 0 6).bind fun x4 =>
      if x4 = 0 then
        some (((-99000003) : Int32), h1)
      else
        f_X12_calm_33 n z n h1 v0 v1 v2 (-1) 0
  else none
theorem k_X12_calm {n : Nat} {z : Sh} {h : Hp} {v0 : Nat} {v1 : Int32} {v2 : Int32} {w : Int32 × Hp} (hf : f_X12_calm n z h v0 v1 v2 = some w) : z.K v0 = 12 := by
  unfold f_X12_calm at hf
  exact (if_some hf).1
set_option maxHeartbeats 4000000 in
theorem w_X12_calm_90 {p : Program} {l : Launch} {e : Env} {s : State} {m : MethodId} {args : Array Value} {below : List Frame} {meth : Method} {c : Code} {s0 : State} {E : Ev} {z : Sh} {n : Nat} {k33 : Hp → Nat → Int32 → Int32 → Int32 → Int32 → Option (Int32 × Hp)} {r : Int32} {h' : Hp} (G : Gl s0 E) (B : Bd p s0 s E m c cX12_calm 5 RX12) (hz : s0.heap.size ≤ z.sz) (hc0 : s.heap.size + 0 = z.sz) (hr : meth.sig.returnType = (some .int)) (hlk : meth.locks = false) (hk33 : ∀ (h : Hp) (v0 : Nat) (v1 : Int32) (v2 : Int32) (v3 : Int32) (v4 : Int32) (H : Heap) (locs : List Loc) (ls : Array Slot), Pw s0 s E z h H locs → lv_has ls 5 [(0, .ref v0), (1, .int v1), (2, .int v2), (3, .int v3), (4, .int v4)] → k33 h v0 v1 v2 v3 v4 = some (r, h') → W p l e (rmO 3 69) s m args below meth c H locs 0 0 (Zt below s0 E z h' (some (.int r)) args s 0 0) (F0 m 33 ls [])) : ∀ (h : Hp) (v0 : Nat) (v1 : Int32) (v2 : Int32) (v3 : Int32) (v4 : Int32) (H : Heap) (locs : List Loc) (ls : Array Slot), Pw s0 s E z h H locs → lv_has ls 5 [(0, .ref v0), (1, .int v1), (2, .int v2), (3, .int v3), (4, .int v4)] → f_X12_calm_90 n z k33 h v0 v1 v2 v3 v4 = some (r, h') → W p l e (rmO 3 69) s m args below meth c H locs 0 0 (Zt below s0 E z h' (some (.int r)) args s 0 0) (F0 m 90 ls []) := by
  have hx := B.1
  have hb := B.2.1
  intro h v0 v1 v2 v3 v4 H locs ls hw hl hf
  unfold f_X12_calm_90 at hf
  obtain ⟨x1, e, hf⟩ := ob hf
  refine lv_iinc (v := x1) (lv' := [(4, .int x1), (0, .ref v0), (1, .int v1), (2, .int v2), (3, .int v3)]) hx hb dX12_calm_90 hl (k := 4) rfl (Option.some.inj e) (by decide) rfl (fun ls hl => ?_)
  refine lv_goto (tgt := 33) hx hb dX12_calm_93 (by decide) ?_
  exact hk33 h v0 v1 v2 v3 x1 _ _ _ hw (lv_sub hl [1, 2, 3, 4, 0] rfl) hf
set_option maxHeartbeats 4000000 in
theorem w_X12_calm_73 {p : Program} {l : Launch} {e : Env} {s : State} {m : MethodId} {args : Array Value} {below : List Frame} {meth : Method} {c : Code} {s0 : State} {E : Ev} {z : Sh} {n : Nat} {k33 : Hp → Nat → Int32 → Int32 → Int32 → Int32 → Option (Int32 × Hp)} {r : Int32} {h' : Hp} (G : Gl s0 E) (B : Bd p s0 s E m c cX12_calm 5 RX12) (hz : s0.heap.size ≤ z.sz) (hc0 : s.heap.size + 0 = z.sz) (hr : meth.sig.returnType = (some .int)) (hlk : meth.locks = false) (hk33 : ∀ (h : Hp) (v0 : Nat) (v1 : Int32) (v2 : Int32) (v3 : Int32) (v4 : Int32) (H : Heap) (locs : List Loc) (ls : Array Slot), Pw s0 s E z h H locs → lv_has ls 5 [(0, .ref v0), (1, .int v1), (2, .int v2), (3, .int v3), (4, .int v4)] → k33 h v0 v1 v2 v3 v4 = some (r, h') → W p l e (rmO 3 69) s m args below meth c H locs 0 0 (Zt below s0 E z h' (some (.int r)) args s 0 0) (F0 m 33 ls [])) : ∀ (h : Hp) (v0 : Nat) (v1 : Int32) (v2 : Int32) (v3 : Int32) (v4 : Int32) (H : Heap) (locs : List Loc) (ls : Array Slot), Pw s0 s E z h H locs → lv_has ls 5 [(0, .ref v0), (1, .int v1), (2, .int v2), (3, .int v3), (4, .int v4)] → f_X12_calm_73 n z k33 h v0 v1 v2 v3 v4 = some (r, h') → W p l e (rmO 3 69) s m args below meth c H locs 0 0 (Zt below s0 E z h' (some (.int r)) args s 0 0) (F0 m 73 ls []) := by
  have hx := B.1
  have hb := B.2.1
  intro h v0 v1 v2 v3 v4 H locs ls hw hl hf
  unfold f_X12_calm_73 at hf
  refine lv_aload_n hx hb dX12_calm_73 rfl (lv_at hl 0 rfl) ?_
  refine lv_iload_n hx hb dX12_calm_74 rfl (lv_at hl 1 rfl) ?_
  refine lv_iload hx hb dX12_calm_75 (lv_at hl 4 rfl) ?_
  obtain ⟨⟨x1, h2⟩, e, hf⟩ := ob hf
  refine q_callV (As := [.int v1, .int v4]) (rest := []) (st1 := [.int x1]) (c_X12_runOf G e) B hw hz hc0 (k_X12_runOf e) (by decide) (ci := 12) rfl rfl my_X12_runOf mv_X12_runOf tw_8_142 ⟨Nat.le_of_ble_eq_true rfl, Nat.le_of_ble_eq_true rfl⟩ ⟨Nat.zero_le _, Nat.zero_le _⟩ rfl hl.1 rfl rfl (Nat.le_of_ble_eq_true rfl) dX12_calm_77 (fun H locs hw => ?_)
  obtain ⟨x3, e, hf⟩ := ob hf
  refine q_callS (As := [.int x1]) (rest := []) (st1 := [.int x3]) (c_X12_bitsOf G e) B hw hz hc0 my_X12_bitsOf mv_X12_bitsOf tw_8_150 ⟨Nat.le_of_ble_eq_true rfl, Nat.le_of_ble_eq_true rfl⟩ ⟨Nat.zero_le _, Nat.zero_le _⟩ rfl hl.1 rfl rfl (Nat.le_of_ble_eq_true rfl) dX12_calm_80 (fun H locs hw => ?_)
  refine lv_iload_n hx hb dX12_calm_83 rfl (lv_at hl 2 rfl) ?_
  refine lv_icmp_gt (tgt := 90) hx hb dX12_calm_84 (by decide) (fun c4 => ?_) (fun c4 => ?_)
  · have hf := (if_pos c4).symm.trans hf
    exact w_X12_calm_90 G B hz hc0 hr hlk hk33 h2 v0 v1 v2 v3 v4 _ _ _ hw (lv_sub hl [0, 1, 2, 3, 4] rfl) hf
  · have hf := (if_neg c4).symm.trans hf
    refine lv_iload hx hb dX12_calm_87 (lv_at hl 4 rfl) ?_
    refine lv_istore_n (lv' := [(3, .int v4), (0, .ref v0), (1, .int v1), (2, .int v2), (4, .int v4)]) hx hb dX12_calm_89 rfl hl (by decide) rfl (fun ls hl => ?_)
    exact w_X12_calm_90 G B hz hc0 hr hlk hk33 h2 v0 v1 v2 v4 v4 _ _ _ hw (lv_sub hl [1, 2, 3, 0, 4] rfl) hf
set_option maxHeartbeats 4000000 in
theorem w_X12_calm_33 {p : Program} {l : Launch} {e : Env} {s : State} {m : MethodId} {args : Array Value} {below : List Frame} {meth : Method} {c : Code} {s0 : State} {E : Ev} {z : Sh} {n : Nat} {r : Int32} {h' : Hp} (G : Gl s0 E) (B : Bd p s0 s E m c cX12_calm 5 RX12) (hz : s0.heap.size ≤ z.sz) (hc0 : s.heap.size + 0 = z.sz) (hr : meth.sig.returnType = (some .int)) (hlk : meth.locks = false) : ∀ (i : Nat), ∀ (h : Hp) (v0 : Nat) (v1 : Int32) (v2 : Int32) (v3 : Int32) (v4 : Int32) (H : Heap) (locs : List Loc) (ls : Array Slot), Pw s0 s E z h H locs → lv_has ls 5 [(0, .ref v0), (1, .int v1), (2, .int v2), (3, .int v3), (4, .int v4)] → f_X12_calm_33 n z i h v0 v1 v2 v3 v4 = some (r, h') → W p l e (rmO 3 69) s m args below meth c H locs 0 0 (Zt below s0 E z h' (some (.int r)) args s 0 0) (F0 m 33 ls []) := by
  have hx := B.1
  have hb := B.2.1
  intro i
  induction i with
  | zero =>
    intro h v0 v1 v2 v3 v4 H locs ls hw hl hf
    have hf := (f_X12_calm_33.eq_1 ..).symm.trans hf
    cases hf
  | succ i ih =>
    intro h v0 v1 v2 v3 v4 H locs ls hw hl hf
    have hf := (f_X12_calm_33.eq_2 ..).symm.trans hf
    refine lv_iload hx hb dX12_calm_33 (lv_at hl 4 rfl) ?_
    refine lv_iconst (v := 1) hx hb dX12_calm_35 (by decide) ?_
    refine lv_aload_n hx hb dX12_calm_36 rfl (lv_at hl 0 rfl) ?_
    obtain ⟨a1, e, hf⟩ := ob hf
    refine q_getR e B hw fd_12_1.1 fd_12_1.2.1 fd_12_1.2.2.1 fd_12_1.2.2.2.1 fd_12_1.2.2.2.2 rfl tw_6_44 dX12_calm_37 ?_
    refine lv_iconst (v := 3) hx hb dX12_calm_40 (by decide) ?_
    obtain ⟨x2, e, hf⟩ := ob hf
    refine q_ldI e B hw dX12_calm_41 ?_
    refine lv_ishl hx hb dX12_calm_42 ?_
    refine lv_icmp_ge (tgt := 96) hx hb dX12_calm_43 (by decide) (fun c3 => ?_) (fun c3 => ?_)
    · have hf := (if_pos c3).symm.trans hf
      refine lv_iload_n hx hb dX12_calm_96 rfl (lv_at hl 3 rfl) ?_
      obtain ⟨rfl, rfl⟩ := so2 hf
      exact q_iret B hw hz hc0 hr hlk dX12_calm_97
    · have hf := (if_neg c3).symm.trans hf
      refine lv_iload hx hb dX12_calm_46 (lv_at hl 4 rfl) ?_
      refine lv_iload_n hx hb dX12_calm_48 rfl (lv_at hl 1 rfl) ?_
      refine lv_iand hx hb dX12_calm_49 ?_
      refine lv_if_ne (tgt := 90) hx hb dX12_calm_50 (by decide) (fun c4 => ?_) (fun c4 => ?_)
      · have hf := (if_neg c4).symm.trans hf
        exact w_X12_calm_90 G B hz hc0 hr hlk ih h v0 v1 v2 v3 v4 _ _ _ hw (lv_sub hl [0, 1, 2, 3, 4] rfl) hf
      · have hf := (if_pos c4).symm.trans hf
        refine lv_iload_n hx hb dX12_calm_53 rfl (lv_at hl 3 rfl) ?_
        refine lv_iconst (v := (-1)) hx hb dX12_calm_54 (by decide) ?_
        refine lv_icmp_eq (tgt := 73) hx hb dX12_calm_55 (by decide) (fun c5 => ?_) (fun c5 => ?_)
        · have hf := (if_pos c5).symm.trans hf
          exact w_X12_calm_73 G B hz hc0 hr hlk ih h v0 v1 v2 v3 v4 _ _ _ hw (lv_sub hl [0, 1, 2, 3, 4] rfl) hf
        · have hf := (if_neg c5).symm.trans hf
          refine lv_iload hx hb dX12_calm_58 (lv_at hl 4 rfl) ?_
          obtain ⟨x6, e, hf⟩ := ob hf
          refine q_callS (As := [.int v4]) (rest := []) (st1 := [.int x6]) (c_X12_bitsOf G e) B hw hz hc0 my_X12_bitsOf mv_X12_bitsOf tw_8_150 ⟨Nat.le_of_ble_eq_true rfl, Nat.le_of_ble_eq_true rfl⟩ ⟨Nat.zero_le _, Nat.zero_le _⟩ rfl hl.1 rfl rfl (Nat.le_of_ble_eq_true rfl) dX12_calm_60 (fun H locs hw => ?_)
          refine lv_iload_n hx hb dX12_calm_63 rfl (lv_at hl 3 rfl) ?_
          obtain ⟨x7, e, hf⟩ := ob hf
          refine q_callS (As := [.int v3]) (rest := [.int x6]) (st1 := [.int x7, .int x6]) (c_X12_bitsOf G e) B hw hz hc0 my_X12_bitsOf mv_X12_bitsOf tw_8_150 ⟨Nat.le_of_ble_eq_true rfl, Nat.le_of_ble_eq_true rfl⟩ ⟨Nat.zero_le _, Nat.zero_le _⟩ rfl hl.1 rfl rfl (Nat.le_of_ble_eq_true rfl) dX12_calm_64 (fun H locs hw => ?_)
          refine lv_icmp_lt (tgt := 73) hx hb dX12_calm_67 (by decide) (fun c8 => ?_) (fun c8 => ?_)
          · have hf := (if_pos c8).symm.trans hf
            exact w_X12_calm_73 G B hz hc0 hr hlk ih h v0 v1 v2 v3 v4 _ _ _ hw (lv_sub hl [0, 1, 2, 3, 4] rfl) hf
          · have hf := (if_neg c8).symm.trans hf
            refine lv_goto (tgt := 90) hx hb dX12_calm_70 (by decide) ?_
            exact w_X12_calm_90 G B hz hc0 hr hlk ih h v0 v1 v2 v3 v4 _ _ _ hw (lv_sub hl [0, 1, 2, 3, 4] rfl) hf
set_option maxHeartbeats 4000000 in
theorem c_X12_calm {l : Launch} {s0 : State} {E : Ev} (G : Gl s0 E) {n : Nat} {z : Sh} {h : Hp} {v0 : Nat} {v1 : Int32} {v2 : Int32} {r : Int32} {h' : Hp} (hf : f_X12_calm n z h v0 v1 v2 = some (r, h')) : Ct l s0 E yX12_calm cX12_calm 5 (some .int) 3 69 [.ref v0, .int v1, .int v2] z h h' (some (.int r)) := by
  refine Ct.of G (by decide) (Nat.le_of_ble_eq_true rfl) ?_
  intro p e s m below meth c ls B hw hz hc0 hr hlk hl
  have B : Bd p s0 s E m c cX12_calm 5 RX12 := B
  have hx := B.1
  have hb := B.2.1
  have hl : lv_has ls 5 [(0, .ref v0), (1, .int v1), (2, .int v2)] := hl
  unfold f_X12_calm at hf
  obtain ⟨_, hf⟩ := if_some hf
  refine lv_aload_n hx hb dX12_calm_0 rfl (lv_at hl 0 rfl) ?_
  refine lv_iconst (v := 0) hx hb dX12_calm_1 (by decide) ?_
  obtain ⟨h1, e, hf⟩ := ob hf
  refine q_putI e B hw fd_12_0.1 fd_12_0.2.1 fd_12_0.2.2.1 fd_12_0.2.2.2.1 fd_12_0.2.2.2.2 rfl rfl (tyX12_ok 0 (by decide)) tyX12 tyX12_ok nmX12 tw_6_43 dX12_calm_2 (fun H locs hw => ?_)
  refine lv_aload_n hx hb dX12_calm_5 rfl (lv_at hl 0 rfl) ?_
  refine lv_iload_n hx hb dX12_calm_6 rfl (lv_at hl 1 rfl) ?_
  obtain ⟨x2, e, hf⟩ := ob hf
  refine q_callV (As := [.int v1]) (rest := []) (st1 := [.int x2]) (c_X12_isSet G e) B hw hz hc0 (k_X12_isSet e) (by decide) (ci := 12) rfl rfl my_X12_isSet mv_X12_isSet tw_8_138 ⟨Nat.le_of_ble_eq_true rfl, Nat.le_of_ble_eq_true rfl⟩ ⟨Nat.zero_le _, Nat.zero_le _⟩ rfl hl.1 rfl rfl (Nat.le_of_ble_eq_true rfl) dX12_calm_7 (fun H locs hw => ?_)
  refine lv_if_eq (tgt := 25) hx hb dX12_calm_10 (by decide) (fun c3 => ?_) (fun c3 => ?_)
  · have hf := (if_pos c3).symm.trans hf
    refine lv_ldc hx hb B.2.2.2.1 (B.w tw_6_165 rfl) dX12_calm_25 ?_
    obtain ⟨rfl, rfl⟩ := so2 hf
    exact q_iret B hw hz hc0 hr hlk dX12_calm_27
  · have hf := (if_neg c3).symm.trans hf
    refine lv_iload_n hx hb dX12_calm_13 rfl (lv_at hl 2 rfl) ?_
    refine lv_i2l (v := (Int32.toInt64 v2)) hx hb dX12_calm_14 rfl ?_
    refine lv_lconst (v := 0) hx hb dX12_calm_15 (by decide) ?_
    refine lv_ldc2 hx hb B.2.2.2.1 (B.w tw_8_161 rfl) dX12_calm_16 ?_
    obtain ⟨x4, e, hf⟩ := ob hf
    refine q_callS (As := [.long (Int32.toInt64 v2), .long 0, .long 6]) (rest := []) (st1 := [.int x4]) (c_X12_within G e) B hw hz hc0 my_X12_within mv_X12_within tw_6_162 ⟨Nat.le_of_ble_eq_true rfl, Nat.le_of_ble_eq_true rfl⟩ ⟨Nat.zero_le _, Nat.zero_le _⟩ rfl hl.1 rfl rfl (Nat.le_of_ble_eq_true rfl) dX12_calm_19 (fun H locs hw => ?_)
    refine lv_if_ne (tgt := 28) hx hb dX12_calm_22 (by decide) (fun c5 => ?_) (fun c5 => ?_)
    · have hf := (if_neg c5).symm.trans hf
      refine lv_iconst (v := (-1)) hx hb dX12_calm_28 (by decide) ?_
      refine lv_istore_n (lv' := [(3, .int (-1)), (0, .ref v0), (1, .int v1), (2, .int v2)]) hx hb dX12_calm_29 rfl hl (by decide) rfl (fun ls hl => ?_)
      refine lv_iconst (v := 0) hx hb dX12_calm_30 (by decide) ?_
      refine lv_istore (lv' := [(4, .int 0), (3, .int (-1)), (0, .ref v0), (1, .int v1), (2, .int v2)]) hx hb dX12_calm_31 hl (by decide) rfl (fun ls hl => ?_)
      exact w_X12_calm_33 G B hz hc0 hr hlk  n h1 v0 v1 v2 (-1) 0 _ _ _ hw (lv_sub hl [2, 3, 4, 1, 0] rfl) hf
    · have hf := (if_pos c5).symm.trans hf
      refine lv_ldc hx hb B.2.2.2.1 (B.w tw_6_165 rfl) dX12_calm_25 ?_
      obtain ⟨rfl, rfl⟩ := so2 hf
      exact q_iret B hw hz hc0 hr hlk dX12_calm_27
/-! SecondLifeModel.isRest(I)Z -/
def f_X12_isRest_71 (n : Nat) (z : Sh) (h : Hp) (k4 : Nat → Int32 → Int32 → Int32 → Option (Int32)) (v0 : Nat) (v1 : Int32) (v3 : Int32) (u0 : Int32) (u1 : Int32) : Option (Int32) :=
  (some (u1 &&& u0)).bind fun x1 =>
  (some (v3 + 1)).bind fun x2 =>
  k4 v0 v1 x1 x2
def f_X12_isRest_4 (n : Nat) (z : Sh) (h : Hp) : Nat → Nat → Int32 → Int32 → Int32 → Option (Int32)
  | 0, _, _, _, _ => none
  | i + 1, v0, v1, v2, v3 =>
    (gR z h 12 v0 1).bind fun a1 =>
    (ldI z h a1 3).bind fun x2 =>
    if x2 ≤ v3 then
      bz v2
    else
      (f_X12_isIn z h (Int32.toInt64 v1) v3).bind fun x4 =>
      if x4 = 0 then
        (f_X12_bitsOf n z h v1).bind fun x6 =>
        (gR z h 12 v0 1).bind fun a7 =>
        (ldI z h a7 (11 + v3)).bind fun x8 =>
        if x8 ≤ x6 then
          f_X12_isRest_71 n z h (f_X12_isRest_4 n z h i) v0 v1 v3 0 v2
        else
          f_X12_isRest_71 n z h (f_X12_isRest_4 n z h i) v0 v1 v3 1 v2
      else
        (f_X12_bitsOf n z h v1).bind fun x10 =>
        (gR z h 12 v0 1).bind fun a11 =>
        (ldI z h a11 (11 + v3)).bind fun x12 =>
        if (x10 - 1) < x12 then
          f_X12_isRest_71 n z h (f_X12_isRest_4 n z h i) v0 v1 v3 0 v2
        else
          f_X12_isRest_71 n z h (f_X12_isRest_4 n z h i) v0 v1 v3 1 v2
def f_X12_isRest (n : Nat) (z : Sh) (h : Hp) (v0 : Nat) (v1 : Int32) : Option (Int32) :=
  if z.K v0 = 12 then
    f_X12_isRest_4 n z h n v0 v1 1 0
  else none
theorem k_X12_isRest {n : Nat} {z : Sh} {h : Hp} {v0 : Nat} {v1 : Int32} {w : Int32} (hf : f_X12_isRest n z h v0 v1 = some w) : z.K v0 = 12 := by
  unfold f_X12_isRest at hf
  exact (if_some hf).1
set_option maxHeartbeats 4000000 in
theorem w_X12_isRest_71 {p : Program} {l : Launch} {e : Env} {s : State} {m : MethodId} {args : Array Value} {below : List Frame} {meth : Method} {c : Code} {s0 : State} {E : Ev} {z : Sh} {h : Hp} {n : Nat} {k4 : Nat → Int32 → Int32 → Int32 → Option (Int32)} {r : Int32} (G : Gl s0 E) (B : Bd p s0 s E m c cX12_isRest 4 RX12) (hz : s0.heap.size ≤ z.sz) (hc0 : s.heap.size + 0 = z.sz) (hr : meth.sig.returnType = (some .boolean)) (hlk : meth.locks = false) (hk4 : ∀ (v0 : Nat) (v1 : Int32) (v2 : Int32) (v3 : Int32) (H : Heap) (locs : List Loc) (ls : Array Slot), Pw s0 s E z h H locs → lv_has ls 4 [(0, .ref v0), (1, .int v1), (2, .int v2), (3, .int v3)] → k4 v0 v1 v2 v3 = some r → W p l e (rmO 1 22) s m args below meth c H locs 0 0 (Zt below s0 E z h (some (.int r)) args s 0 0) (F0 m 4 ls [])) : ∀ (v0 : Nat) (v1 : Int32) (v3 : Int32) (u0 : Int32) (u1 : Int32) (H : Heap) (locs : List Loc) (ls : Array Slot), Pw s0 s E z h H locs → lv_has ls 4 [(0, .ref v0), (1, .int v1), (3, .int v3)] → f_X12_isRest_71 n z h k4 v0 v1 v3 u0 u1 = some r → W p l e (rmO 1 22) s m args below meth c H locs 0 0 (Zt below s0 E z h (some (.int r)) args s 0 0) (F0 m 71 ls [.int u0, .int u1]) := by
  have hx := B.1
  have hb := B.2.1
  intro v0 v1 v3 u0 u1 H locs ls hw hl hf
  unfold f_X12_isRest_71 at hf
  refine lv_iand hx hb dX12_isRest_71 ?_
  obtain ⟨x1, e, hf⟩ := ob hf
  refine q_nmI e ?_
  refine lv_istore_n (lv' := [(2, .int x1), (0, .ref v0), (1, .int v1), (3, .int v3)]) hx hb dX12_isRest_72 rfl hl (by decide) rfl (fun ls hl => ?_)
  obtain ⟨x2, e, hf⟩ := ob hf
  refine lv_iinc (v := x2) (lv' := [(3, .int x2), (2, .int x1), (0, .ref v0), (1, .int v1)]) hx hb dX12_isRest_73 hl (k := 3) rfl (Option.some.inj e) (by decide) rfl (fun ls hl => ?_)
  refine lv_goto (tgt := 4) hx hb dX12_isRest_76 (by decide) ?_
  exact hk4 v0 v1 x1 x2 _ _ _ hw (lv_sub hl [2, 3, 1, 0] rfl) hf
set_option maxHeartbeats 4000000 in
theorem w_X12_isRest_4 {p : Program} {l : Launch} {e : Env} {s : State} {m : MethodId} {args : Array Value} {below : List Frame} {meth : Method} {c : Code} {s0 : State} {E : Ev} {z : Sh} {h : Hp} {n : Nat} {r : Int32} (G : Gl s0 E) (B : Bd p s0 s E m c cX12_isRest 4 RX12) (hz : s0.heap.size ≤ z.sz) (hc0 : s.heap.size + 0 = z.sz) (hr : meth.sig.returnType = (some .boolean)) (hlk : meth.locks = false) : ∀ (i : Nat), ∀ (v0 : Nat) (v1 : Int32) (v2 : Int32) (v3 : Int32) (H : Heap) (locs : List Loc) (ls : Array Slot), Pw s0 s E z h H locs → lv_has ls 4 [(0, .ref v0), (1, .int v1), (2, .int v2), (3, .int v3)] → f_X12_isRest_4 n z h i v0 v1 v2 v3 = some r → W p l e (rmO 1 22) s m args below meth c H locs 0 0 (Zt below s0 E z h (some (.int r)) args s 0 0) (F0 m 4 ls []) := by
  have hx := B.1
  have hb := B.2.1
  intro i
  induction i with
  | zero =>
    intro v0 v1 v2 v3 H locs ls hw hl hf
    have hf := (f_X12_isRest_4.eq_1 ..).symm.trans hf
    cases hf
  | succ i ih =>
    intro v0 v1 v2 v3 H locs ls hw hl hf
    have hf := (f_X12_isRest_4.eq_2 ..).symm.trans hf
    refine lv_iload_n hx hb dX12_isRest_4 rfl (lv_at hl 3 rfl) ?_
    refine lv_aload_n hx hb dX12_isRest_5 rfl (lv_at hl 0 rfl) ?_
    obtain ⟨a1, e, hf⟩ := ob hf
    refine q_getR e B hw fd_12_1.1 fd_12_1.2.1 fd_12_1.2.2.1 fd_12_1.2.2.2.1 fd_12_1.2.2.2.2 rfl tw_6_44 dX12_isRest_6 ?_
    refine lv_iconst (v := 3) hx hb dX12_isRest_9 (by decide) ?_
    obtain ⟨x2, e, hf⟩ := ob hf
    refine q_ldI e B hw dX12_isRest_10 ?_
    refine lv_icmp_ge (tgt := 79) hx hb dX12_isRest_11 (by decide) (fun c3 => ?_) (fun c3 => ?_)
    · have hf := (if_pos c3).symm.trans hf
      refine lv_iload_n hx hb dX12_isRest_79 rfl (lv_at hl 2 rfl) ?_
      obtain ⟨e1, e⟩ := if_some hf
      cases e
      exact q_zret e1 B hw hz hc0 hr hlk dX12_isRest_80
    · have hf := (if_neg c3).symm.trans hf
      refine lv_iload_n hx hb dX12_isRest_14 rfl (lv_at hl 2 rfl) ?_
      refine lv_iload_n hx hb dX12_isRest_15 rfl (lv_at hl 1 rfl) ?_
      refine lv_i2l (v := (Int32.toInt64 v1)) hx hb dX12_isRest_16 rfl ?_
      refine lv_iload_n hx hb dX12_isRest_17 rfl (lv_at hl 3 rfl) ?_
      obtain ⟨x4, e, hf⟩ := ob hf
      refine q_callS (As := [.long (Int32.toInt64 v1), .int v3]) (rest := [.int v2]) (st1 := [.int x4, .int v2]) (c_X12_isIn G e) B hw hz hc0 my_X12_isIn mv_X12_isIn tw_8_131 ⟨Nat.le_of_ble_eq_true rfl, Nat.le_of_ble_eq_true rfl⟩ ⟨Nat.zero_le _, Nat.zero_le _⟩ rfl hl.1 rfl rfl (Nat.le_of_ble_eq_true rfl) dX12_isRest_18 (fun H locs hw => ?_)
      refine lv_if_eq (tgt := 50) hx hb dX12_isRest_21 (by decide) (fun c5 => ?_) (fun c5 => ?_)
      · have hf := (if_pos c5).symm.trans hf
        refine lv_iload_n hx hb dX12_isRest_50 rfl (lv_at hl 1 rfl) ?_
        obtain ⟨x6, e, hf⟩ := ob hf
        refine q_callS (As := [.int v1]) (rest := [.int v2]) (st1 := [.int x6, .int v2]) (c_X12_bitsOf G e) B hw hz hc0 my_X12_bitsOf mv_X12_bitsOf tw_8_150 ⟨Nat.le_of_ble_eq_true rfl, Nat.le_of_ble_eq_true rfl⟩ ⟨Nat.zero_le _, Nat.zero_le _⟩ rfl hl.1 rfl rfl (Nat.le_of_ble_eq_true rfl) dX12_isRest_51 (fun H locs hw => ?_)
        refine lv_aload_n hx hb dX12_isRest_54 rfl (lv_at hl 0 rfl) ?_
        obtain ⟨a7, e, hf⟩ := ob hf
        refine q_getR e B hw fd_12_1.1 fd_12_1.2.1 fd_12_1.2.2.1 fd_12_1.2.2.2.1 fd_12_1.2.2.2.2 rfl tw_6_44 dX12_isRest_55 ?_
        refine lv_bipush (v := 11) hx hb dX12_isRest_58 (by decide) ?_
        refine lv_iload_n hx hb dX12_isRest_60 rfl (lv_at hl 3 rfl) ?_
        refine lv_iadd hx hb dX12_isRest_61 ?_
        obtain ⟨x8, e, hf⟩ := ob hf
        refine q_ldI e B hw dX12_isRest_62 ?_
        refine lv_icmp_ge (tgt := 70) hx hb dX12_isRest_63 (by decide) (fun c9 => ?_) (fun c9 => ?_)
        · have hf := (if_pos c9).symm.trans hf
          refine lv_iconst (v := 0) hx hb dX12_isRest_70 (by decide) ?_
          exact w_X12_isRest_71 G B hz hc0 hr hlk ih v0 v1 v3 0 v2 _ _ _ hw (lv_sub hl [0, 1, 3] rfl) hf
        · have hf := (if_neg c9).symm.trans hf
          refine lv_iconst (v := 1) hx hb dX12_isRest_66 (by decide) ?_
          refine lv_goto (tgt := 71) hx hb dX12_isRest_67 (by decide) ?_
          exact w_X12_isRest_71 G B hz hc0 hr hlk ih v0 v1 v3 1 v2 _ _ _ hw (lv_sub hl [0, 1, 3] rfl) hf
      · have hf := (if_neg c5).symm.trans hf
        refine lv_iload_n hx hb dX12_isRest_24 rfl (lv_at hl 1 rfl) ?_
        obtain ⟨x10, e, hf⟩ := ob hf
        refine q_callS (As := [.int v1]) (rest := [.int v2]) (st1 := [.int x10, .int v2]) (c_X12_bitsOf G e) B hw hz hc0 my_X12_bitsOf mv_X12_bitsOf tw_8_150 ⟨Nat.le_of_ble_eq_true rfl, Nat.le_of_ble_eq_true rfl⟩ ⟨Nat.zero_le _, Nat.zero_le _⟩ rfl hl.1 rfl rfl (Nat.le_of_ble_eq_true rfl) dX12_isRest_25 (fun H locs hw => ?_)
        refine lv_iconst (v := 1) hx hb dX12_isRest_28 (by decide) ?_
        refine lv_isub hx hb dX12_isRest_29 ?_
        refine lv_aload_n hx hb dX12_isRest_30 rfl (lv_at hl 0 rfl) ?_
        obtain ⟨a11, e, hf⟩ := ob hf
        refine q_getR e B hw fd_12_1.1 fd_12_1.2.1 fd_12_1.2.2.1 fd_12_1.2.2.2.1 fd_12_1.2.2.2.2 rfl tw_6_44 dX12_isRest_31 ?_
        refine lv_bipush (v := 11) hx hb dX12_isRest_34 (by decide) ?_
        refine lv_iload_n hx hb dX12_isRest_36 rfl (lv_at hl 3 rfl) ?_
        refine lv_iadd hx hb dX12_isRest_37 ?_
        obtain ⟨x12, e, hf⟩ := ob hf
        refine q_ldI e B hw dX12_isRest_38 ?_
        refine lv_icmp_lt (tgt := 46) hx hb dX12_isRest_39 (by decide) (fun c13 => ?_) (fun c13 => ?_)
        · have hf := (if_pos c13).symm.trans hf
          refine lv_iconst (v := 0) hx hb dX12_isRest_46 (by decide) ?_
          refine lv_goto (tgt := 71) hx hb dX12_isRest_47 (by decide) ?_
          exact w_X12_isRest_71 G B hz hc0 hr hlk ih v0 v1 v3 0 v2 _ _ _ hw (lv_sub hl [0, 1, 3] rfl) hf
        · have hf := (if_neg c13).symm.trans hf
          refine lv_iconst (v := 1) hx hb dX12_isRest_42 (by decide) ?_
          refine lv_goto (tgt := 71) hx hb dX12_isRest_43 (by decide) ?_
          exact w_X12_isRest_71 G B hz hc0 hr hlk ih v0 v1 v3 1 v2 _ _ _ hw (lv_sub hl [0, 1, 3] rfl) hf
set_option maxHeartbeats 4000000 in
theorem c_X12_isRest {l : Launch} {s0 : State} {E : Ev} (G : Gl s0 E) {n : Nat} {z : Sh} {h : Hp} {v0 : Nat} {v1 : Int32} {r : Int32} (hf : f_X12_isRest n z h v0 v1 = some r) : Ct l s0 E yX12_isRest cX12_isRest 4 (some .boolean) 1 22 [.ref v0, .int v1] z h h (some (.int r)) := by
  refine Ct.of G (by decide) (Nat.le_of_ble_eq_true rfl) ?_
  intro p e s m below meth c ls B hw hz hc0 hr hlk hl
  have B : Bd p s0 s E m c cX12_isRest 4 RX12 := B
  have hx := B.1
  have hb := B.2.1
  have hl : lv_has ls 4 [(0, .ref v0), (1, .int v1)] := hl
  unfold f_X12_isRest at hf
  obtain ⟨_, hf⟩ := if_some hf
  refine lv_iconst (v := 1) hx hb dX12_isRest_0 (by decide) ?_
  refine lv_istore_n (lv' := [(2, .int 1), (0, .ref v0), (1, .int v1)]) hx hb dX12_isRest_1 rfl hl (by decide) rfl (fun ls hl => ?_)
  refine lv_iconst (v := 0) hx hb dX12_isRest_2 (by decide) ?_
  refine lv_istore_n (lv' := [(3, .int 0), (2, .int 1), (0, .ref v0), (1, .int v1)]) hx hb dX12_isRest_3 rfl hl (by decide) rfl (fun ls hl => ?_)
  exact w_X12_isRest_4 G B hz hc0 hr hlk  n v0 v1 1 0 _ _ _ hw (lv_sub hl [2, 3, 1, 0] rfl) hf
/-! SecondLifeModel.rests()I -/
def f_X12_rests_35 (n : Nat) (z : Sh) (k9 : Hp → Nat → Int32 → Int32 → Option (Int32 × Hp)) (h : Hp) (v0 : Nat) (v2 : Int32) (u0 : Int32) (u1 : Int32) : Option (Int32 × Hp) :=
  (some (u1 + u0)).bind fun x1 =>
  (some (v2 + 1)).bind fun x2 =>
  k9 h v0 x1 x2
def f_X12_rests_9 (n : Nat) (z : Sh) : Nat → Hp → Nat → Int32 → Int32 → Option (Int32 × Hp)
  | 0, _, _, _, _ => none
  | i + 1, h, v0, v1, v2 =>
    (gR z h 12 v0 1).bind fun a1 =>
    (ldI z h a1 3).bind fun x2 =>
    if ((1 : Int32) <<< (x2 &&& 31)) ≤ v2 then
      some (v1, h)
    else
      (f_X12_isRest n z h v0 v2).bind fun x4 =>
      if x4 = 0 then
        f_X12_rests_35 n z (f_X12_rests_9 n z i) h v0 v2 0 v1
      else
        f_X12_rests_35 n z (f_X12_rests_9 n z i) h v0 v2 1 v1
def f_X12_rests (n : Nat) (z : Sh) (h : Hp) (v0 : Nat) : Option (Int32 × Hp) :=
  if z.K v0 = 12 then
    (pI z h 12 v0 0 0).bind fun h1 =>
    f_X12_rests_9 n z n h1 v0 0 0
  else none
theorem k_X12_rests {n : Nat} {z : Sh} {h : Hp} {v0 : Nat} {w : Int32 × Hp} (hf : f_X12_rests n z h v0 = some w) : z.K v0 = 12 := by
  unfold f_X12_rests at hf
  exact (if_some hf).1
set_option maxHeartbeats 4000000 in
theorem w_X12_rests_35 {p : Program} {l : Launch} {e : Env} {s : State} {m : MethodId} {args : Array Value} {below : List Frame} {meth : Method} {c : Code} {s0 : State} {E : Ev} {z : Sh} {n : Nat} {k9 : Hp → Nat → Int32 → Int32 → Option (Int32 × Hp)} {r : Int32} {h' : Hp} (G : Gl s0 E) (B : Bd p s0 s E m c cX12_rests 3 RX12) (hz : s0.heap.size ≤ z.sz) (hc0 : s.heap.size + 0 = z.sz) (hr : meth.sig.returnType = (some .int)) (hlk : meth.locks = false) (hk9 : ∀ (h : Hp) (v0 : Nat) (v1 : Int32) (v2 : Int32) (H : Heap) (locs : List Loc) (ls : Array Slot), Pw s0 s E z h H locs → lv_has ls 3 [(0, .ref v0), (1, .int v1), (2, .int v2)] → k9 h v0 v1 v2 = some (r, h') → W p l e (rmO 2 45) s m args below meth c H locs 0 0 (Zt below s0 E z h' (some (.int r)) args s 0 0) (F0 m 9 ls [])) : ∀ (h : Hp) (v0 : Nat) (v2 : Int32) (u0 : Int32) (u1 : Int32) (H : Heap) (locs : List Loc) (ls : Array Slot), Pw s0 s E z h H locs → lv_has ls 3 [(0, .ref v0), (2, .int v2)] → f_X12_rests_35 n z k9 h v0 v2 u0 u1 = some (r, h') → W p l e (rmO 2 45) s m args below meth c H locs 0 0 (Zt below s0 E z h' (some (.int r)) args s 0 0) (F0 m 35 ls [.int u0, .int u1]) := by
  have hx := B.1
  have hb := B.2.1
  intro h v0 v2 u0 u1 H locs ls hw hl hf
  unfold f_X12_rests_35 at hf
  refine lv_iadd hx hb dX12_rests_35 ?_
  obtain ⟨x1, e, hf⟩ := ob hf
  refine q_nmI e ?_
  refine lv_istore_n (lv' := [(1, .int x1), (0, .ref v0), (2, .int v2)]) hx hb dX12_rests_36 rfl hl (by decide) rfl (fun ls hl => ?_)
  obtain ⟨x2, e, hf⟩ := ob hf
  refine lv_iinc (v := x2) (lv' := [(2, .int x2), (1, .int x1), (0, .ref v0)]) hx hb dX12_rests_37 hl (k := 2) rfl (Option.some.inj e) (by decide) rfl (fun ls hl => ?_)
  refine lv_goto (tgt := 9) hx hb dX12_rests_40 (by decide) ?_
  exact hk9 h v0 x1 x2 _ _ _ hw (lv_sub hl [2, 1, 0] rfl) hf
set_option maxHeartbeats 4000000 in
theorem w_X12_rests_9 {p : Program} {l : Launch} {e : Env} {s : State} {m : MethodId} {args : Array Value} {below : List Frame} {meth : Method} {c : Code} {s0 : State} {E : Ev} {z : Sh} {n : Nat} {r : Int32} {h' : Hp} (G : Gl s0 E) (B : Bd p s0 s E m c cX12_rests 3 RX12) (hz : s0.heap.size ≤ z.sz) (hc0 : s.heap.size + 0 = z.sz) (hr : meth.sig.returnType = (some .int)) (hlk : meth.locks = false) : ∀ (i : Nat), ∀ (h : Hp) (v0 : Nat) (v1 : Int32) (v2 : Int32) (H : Heap) (locs : List Loc) (ls : Array Slot), Pw s0 s E z h H locs → lv_has ls 3 [(0, .ref v0), (1, .int v1), (2, .int v2)] → f_X12_rests_9 n z i h v0 v1 v2 = some (r, h') → W p l e (rmO 2 45) s m args below meth c H locs 0 0 (Zt below s0 E z h' (some (.int r)) args s 0 0) (F0 m 9 ls []) := by
  have hx := B.1
  have hb := B.2.1
  intro i
  induction i with
  | zero =>
    intro h v0 v1 v2 H locs ls hw hl hf
    have hf := (f_X12_rests_9.eq_1 ..).symm.trans hf
    cases hf
  | succ i ih =>
    intro h v0 v1 v2 H locs ls hw hl hf
    have hf := (f_X12_rests_9.eq_2 ..).symm.trans hf
    refine lv_iload_n hx hb dX12_rests_9 rfl (lv_at hl 2 rfl) ?_
    refine lv_iconst (v := 1) hx hb dX12_rests_10 (by decide) ?_
    refine lv_aload_n hx hb dX12_rests_11 rfl (lv_at hl 0 rfl) ?_
    obtain ⟨a1, e, hf⟩ := ob hf
    refine q_getR e B hw fd_12_1.1 fd_12_1.2.1 fd_12_1.2.2.1 fd_12_1.2.2.2.1 fd_12_1.2.2.2.2 rfl tw_6_44 dX12_rests_12 ?_
    refine lv_iconst (v := 3) hx hb dX12_rests_15 (by decide) ?_
    obtain ⟨x2, e, hf⟩ := ob hf
    refine q_ldI e B hw dX12_rests_16 ?_
    refine lv_ishl hx hb dX12_rests_17 ?_
    refine lv_icmp_ge (tgt := 43) hx hb dX12_rests_18 (by decide) (fun c3 => ?_) (fun c3 => ?_)
    · have hf := (if_pos c3).symm.trans hf
      refine lv_iload_n hx hb dX12_rests_43 rfl (lv_at hl 1 rfl) ?_
      obtain ⟨rfl, rfl⟩ := so2 hf
      exact q_iret B hw hz hc0 hr hlk dX12_rests_44
    · have hf := (if_neg c3).symm.trans hf
      refine lv_iload_n hx hb dX12_rests_21 rfl (lv_at hl 1 rfl) ?_
      refine lv_aload_n hx hb dX12_rests_22 rfl (lv_at hl 0 rfl) ?_
      refine lv_iload_n hx hb dX12_rests_23 rfl (lv_at hl 2 rfl) ?_
      obtain ⟨x4, e, hf⟩ := ob hf
      refine q_callV (As := [.int v2]) (rest := [.int v1]) (st1 := [.int x4, .int v1]) (c_X12_isRest G e) B hw hz hc0 (k_X12_isRest e) (by decide) (ci := 12) rfl rfl my_X12_isRest mv_X12_isRest tw_8_170 ⟨Nat.le_of_ble_eq_true rfl, Nat.le_of_ble_eq_true rfl⟩ ⟨Nat.zero_le _, Nat.zero_le _⟩ rfl hl.1 rfl rfl (Nat.le_of_ble_eq_true rfl) dX12_rests_24 (fun H locs hw => ?_)
      refine lv_if_eq (tgt := 34) hx hb dX12_rests_27 (by decide) (fun c5 => ?_) (fun c5 => ?_)
      · have hf := (if_pos c5).symm.trans hf
        refine lv_iconst (v := 0) hx hb dX12_rests_34 (by decide) ?_
        exact w_X12_rests_35 G B hz hc0 hr hlk ih h v0 v2 0 v1 _ _ _ hw (lv_sub hl [0, 2] rfl) hf
      · have hf := (if_neg c5).symm.trans hf
        refine lv_iconst (v := 1) hx hb dX12_rests_30 (by decide) ?_
        refine lv_goto (tgt := 35) hx hb dX12_rests_31 (by decide) ?_
        exact w_X12_rests_35 G B hz hc0 hr hlk ih h v0 v2 1 v1 _ _ _ hw (lv_sub hl [0, 2] rfl) hf
set_option maxHeartbeats 4000000 in
theorem c_X12_rests {l : Launch} {s0 : State} {E : Ev} (G : Gl s0 E) {n : Nat} {z : Sh} {h : Hp} {v0 : Nat} {r : Int32} {h' : Hp} (hf : f_X12_rests n z h v0 = some (r, h')) : Ct l s0 E yX12_rests cX12_rests 3 (some .int) 2 45 [.ref v0] z h h' (some (.int r)) := by
  refine Ct.of G (by decide) (Nat.le_of_ble_eq_true rfl) ?_
  intro p e s m below meth c ls B hw hz hc0 hr hlk hl
  have B : Bd p s0 s E m c cX12_rests 3 RX12 := B
  have hx := B.1
  have hb := B.2.1
  have hl : lv_has ls 3 [(0, .ref v0)] := hl
  unfold f_X12_rests at hf
  obtain ⟨_, hf⟩ := if_some hf
  refine lv_aload_n hx hb dX12_rests_0 rfl (lv_at hl 0 rfl) ?_
  refine lv_iconst (v := 0) hx hb dX12_rests_1 (by decide) ?_
  obtain ⟨h1, e, hf⟩ := ob hf
  refine q_putI e B hw fd_12_0.1 fd_12_0.2.1 fd_12_0.2.2.1 fd_12_0.2.2.2.1 fd_12_0.2.2.2.2 rfl rfl (tyX12_ok 0 (by decide)) tyX12 tyX12_ok nmX12 tw_6_43 dX12_rests_2 (fun H locs hw => ?_)
  refine lv_iconst (v := 0) hx hb dX12_rests_5 (by decide) ?_
  refine lv_istore_n (lv' := [(1, .int 0), (0, .ref v0)]) hx hb dX12_rests_6 rfl hl (by decide) rfl (fun ls hl => ?_)
  refine lv_iconst (v := 0) hx hb dX12_rests_7 (by decide) ?_
  refine lv_istore_n (lv' := [(2, .int 0), (1, .int 0), (0, .ref v0)]) hx hb dX12_rests_8 rfl hl (by decide) rfl (fun ls hl => ?_)
  exact w_X12_rests_9 G B hz hc0 hr hlk  n h1 v0 0 0 _ _ _ hw (lv_sub hl [2, 1, 0] rfl) hf
/-! SecondLifeModel.rest(I)I -/
def f_X12_rest_49 (n : Nat) (z : Sh) (k16 : Hp → Nat → Int32 → Int32 → Int32 → Option (Int32 × Hp)) (h : Hp) (v0 : Nat) (v1 : Int32) (v2 : Int32) (v3 : Int32) : Option (Int32 × Hp) :=
  (some (v3 + 1)).bind fun x1 =>
  k16 h v0 v1 v2 x1
def f_X12_rest_16 (n : Nat) (z : Sh) : Nat → Hp → Nat → Int32 → Int32 → Int32 → Option (Int32 × Hp)
  | 0, _, _, _, _, _ => none
  | i + 1, h, v0, v1, v2, v3 =>
    (gR z h 12 v0 1).bind fun a1 =>
    (ldI z h a1 3).bind fun x2 =>
    if ((1 : Int32) <<< (x2 &&& 31)) ≤ v3 then
      some (((-1) : Int32), h)
    else
      (f_X12_isRest n z h v0 v3).bind fun x4 =>
      if x4 = 0 then
        f_X12_rest_49 n z (f_X12_rest_16 n z i) h v0 v1 v2 v3
      else
        if v2 = v1 then
          some (v3, h)
        else
          (some (v2 + 1)).bind fun x7 =>
          f_X12_rest_49 n z (f_X12_rest_16 n z i) h v0 v1 x7 v3
def f_X12_rest (n : Nat) (z : Sh) (h : Hp) (v0 : Nat) (v1 : Int32) : Option (Int32 × Hp) :=
  if z.K v0 = 12 then
    (pI z h 12 v0 0 0).bind fun h1 =>
    if 0 ≤ v1 then
      f_X12_rest_16 n z n h1 v0 v1 0 0
    else
      some (((-99000003) : Int32), h1)
  else none
theorem k_X12_rest {n : Nat} {z : Sh} {h : Hp} {v0 : Nat} {v1 : Int32} {w : Int32 × Hp} (hf : f_X12_rest n z h v0 v1 = some w) : z.K v0 = 12 := by
  unfold f_X12_rest at hf
  exact (if_some hf).1
set_option maxHeartbeats 4000000 in
theorem w_X12_rest_49 {p : Program} {l : Launch} {e : Env} {s : State} {m : MethodId} {args : Array Value} {below : List Frame} {meth : Method} {c : Code} {s0 : State} {E : Ev} {z : Sh} {n : Nat} {k16 : Hp → Nat → Int32 → Int32 → Int32 → Option (Int32 × Hp)} {r : Int32} {h' : Hp} (G : Gl s0 E) (B : Bd p s0 s E m c cX12_rest 4 RX12) (hz : s0.heap.size ≤ z.sz) (hc0 : s.heap.size + 0 = z.sz) (hr : meth.sig.returnType = (some .int)) (hlk : meth.locks = false) (hk16 : ∀ (h : Hp) (v0 : Nat) (v1 : Int32) (v2 : Int32) (v3 : Int32) (H : Heap) (locs : List Loc) (ls : Array Slot), Pw s0 s E z h H locs → lv_has ls 4 [(0, .ref v0), (1, .int v1), (2, .int v2), (3, .int v3)] → k16 h v0 v1 v2 v3 = some (r, h') → W p l e (rmO 2 45) s m args below meth c H locs 0 0 (Zt below s0 E z h' (some (.int r)) args s 0 0) (F0 m 16 ls [])) : ∀ (h : Hp) (v0 : Nat) (v1 : Int32) (v2 : Int32) (v3 : Int32) (H : Heap) (locs : List Loc) (ls : Array Slot), Pw s0 s E z h H locs → lv_has ls 4 [(0, .ref v0), (1, .int v1), (2, .int v2), (3, .int v3)] → f_X12_rest_49 n z k16 h v0 v1 v2 v3 = some (r, h') → W p l e (rmO 2 45) s m args below meth c H locs 0 0 (Zt below s0 E z h' (some (.int r)) args s 0 0) (F0 m 49 ls []) := by
  have hx := B.1
  have hb := B.2.1
  intro h v0 v1 v2 v3 H locs ls hw hl hf
  unfold f_X12_rest_49 at hf
  obtain ⟨x1, e, hf⟩ := ob hf
  refine lv_iinc (v := x1) (lv' := [(3, .int x1), (0, .ref v0), (1, .int v1), (2, .int v2)]) hx hb dX12_rest_49 hl (k := 3) rfl (Option.some.inj e) (by decide) rfl (fun ls hl => ?_)
  refine lv_goto (tgt := 16) hx hb dX12_rest_52 (by decide) ?_
  exact hk16 h v0 v1 v2 x1 _ _ _ hw (lv_sub hl [1, 2, 3, 0] rfl) hf
set_option maxHeartbeats 4000000 in
theorem w_X12_rest_16 {p : Program} {l : Launch} {e : Env} {s : State} {m : MethodId} {args : Array Value} {below : List Frame} {meth : Method} {c : Code} {s0 : State} {E : Ev} {z : Sh} {n : Nat} {r : Int32} {h' : Hp} (G : Gl s0 E) (B : Bd p s0 s E m c cX12_rest 4 RX12) (hz : s0.heap.size ≤ z.sz) (hc0 : s.heap.size + 0 = z.sz) (hr : meth.sig.returnType = (some .int)) (hlk : meth.locks = false) : ∀ (i : Nat), ∀ (h : Hp) (v0 : Nat) (v1 : Int32) (v2 : Int32) (v3 : Int32) (H : Heap) (locs : List Loc) (ls : Array Slot), Pw s0 s E z h H locs → lv_has ls 4 [(0, .ref v0), (1, .int v1), (2, .int v2), (3, .int v3)] → f_X12_rest_16 n z i h v0 v1 v2 v3 = some (r, h') → W p l e (rmO 2 45) s m args below meth c H locs 0 0 (Zt below s0 E z h' (some (.int r)) args s 0 0) (F0 m 16 ls []) := by
  have hx := B.1
  have hb := B.2.1
  intro i
  induction i with
  | zero =>
    intro h v0 v1 v2 v3 H locs ls hw hl hf
    have hf := (f_X12_rest_16.eq_1 ..).symm.trans hf
    cases hf
  | succ i ih =>
    intro h v0 v1 v2 v3 H locs ls hw hl hf
    have hf := (f_X12_rest_16.eq_2 ..).symm.trans hf
    refine lv_iload_n hx hb dX12_rest_16 rfl (lv_at hl 3 rfl) ?_
    refine lv_iconst (v := 1) hx hb dX12_rest_17 (by decide) ?_
    refine lv_aload_n hx hb dX12_rest_18 rfl (lv_at hl 0 rfl) ?_
    obtain ⟨a1, e, hf⟩ := ob hf
    refine q_getR e B hw fd_12_1.1 fd_12_1.2.1 fd_12_1.2.2.1 fd_12_1.2.2.2.1 fd_12_1.2.2.2.2 rfl tw_6_44 dX12_rest_19 ?_
    refine lv_iconst (v := 3) hx hb dX12_rest_22 (by decide) ?_
    obtain ⟨x2, e, hf⟩ := ob hf
    refine q_ldI e B hw dX12_rest_23 ?_
    refine lv_ishl hx hb dX12_rest_24 ?_
    refine lv_icmp_ge (tgt := 55) hx hb dX12_rest_25 (by decide) (fun c3 => ?_) (fun c3 => ?_)
    · have hf := (if_pos c3).symm.trans hf
      refine lv_iconst (v := (-1)) hx hb dX12_rest_55 (by decide) ?_
      obtain ⟨rfl, rfl⟩ := so2 hf
      exact q_iret B hw hz hc0 hr hlk dX12_rest_56
    · have hf := (if_neg c3).symm.trans hf
      refine lv_aload_n hx hb dX12_rest_28 rfl (lv_at hl 0 rfl) ?_
      refine lv_iload_n hx hb dX12_rest_29 rfl (lv_at hl 3 rfl) ?_
      obtain ⟨x4, e, hf⟩ := ob hf
      refine q_callV (As := [.int v3]) (rest := []) (st1 := [.int x4]) (c_X12_isRest G e) B hw hz hc0 (k_X12_isRest e) (by decide) (ci := 12) rfl rfl my_X12_isRest mv_X12_isRest tw_8_170 ⟨Nat.le_of_ble_eq_true rfl, Nat.le_of_ble_eq_true rfl⟩ ⟨Nat.zero_le _, Nat.zero_le _⟩ rfl hl.1 rfl rfl (Nat.le_of_ble_eq_true rfl) dX12_rest_30 (fun H locs hw => ?_)
      refine lv_if_ne (tgt := 39) hx hb dX12_rest_33 (by decide) (fun c5 => ?_) (fun c5 => ?_)
      · have hf := (if_neg c5).symm.trans hf
        refine lv_iload_n hx hb dX12_rest_39 rfl (lv_at hl 2 rfl) ?_
        refine lv_iload_n hx hb dX12_rest_40 rfl (lv_at hl 1 rfl) ?_
        refine lv_icmp_ne (tgt := 46) hx hb dX12_rest_41 (by decide) (fun c6 => ?_) (fun c6 => ?_)
        · have hf := (if_neg c6).symm.trans hf
          obtain ⟨x7, e, hf⟩ := ob hf
          refine lv_iinc (v := x7) (lv' := [(2, .int x7), (0, .ref v0), (1, .int v1), (3, .int v3)]) hx hb dX12_rest_46 hl (k := 2) rfl (Option.some.inj e) (by decide) rfl (fun ls hl => ?_)
          exact w_X12_rest_49 G B hz hc0 hr hlk ih h v0 v1 x7 v3 _ _ _ hw (lv_sub hl [1, 2, 0, 3] rfl) hf
        · have hf := (if_pos c6).symm.trans hf
          refine lv_iload_n hx hb dX12_rest_44 rfl (lv_at hl 3 rfl) ?_
          obtain ⟨rfl, rfl⟩ := so2 hf
          exact q_iret B hw hz hc0 hr hlk dX12_rest_45
      · have hf := (if_pos c5).symm.trans hf
        refine lv_goto (tgt := 49) hx hb dX12_rest_36 (by decide) ?_
        exact w_X12_rest_49 G B hz hc0 hr hlk ih h v0 v1 v2 v3 _ _ _ hw (lv_sub hl [0, 1, 2, 3] rfl) hf
set_option maxHeartbeats 4000000 in
theorem c_X12_rest {l : Launch} {s0 : State} {E : Ev} (G : Gl s0 E) {n : Nat} {z : Sh} {h : Hp} {v0 : Nat} {v1 : Int32} {r : Int32} {h' : Hp} (hf : f_X12_rest n z h v0 v1 = some (r, h')) : Ct l s0 E yX12_rest cX12_rest 4 (some .int) 2 45 [.ref v0, .int v1] z h h' (some (.int r)) := by
  refine Ct.of G (by decide) (Nat.le_of_ble_eq_true rfl) ?_
  intro p e s m below meth c ls B hw hz hc0 hr hlk hl
  have B : Bd p s0 s E m c cX12_rest 4 RX12 := B
  have hx := B.1
  have hb := B.2.1
  have hl : lv_has ls 4 [(0, .ref v0), (1, .int v1)] := hl
  unfold f_X12_rest at hf
  obtain ⟨_, hf⟩ := if_some hf
  refine lv_aload_n hx hb dX12_rest_0 rfl (lv_at hl 0 rfl) ?_
  refine lv_iconst (v := 0) hx hb dX12_rest_1 (by decide) ?_
  obtain ⟨h1, e, hf⟩ := ob hf
  refine q_putI e B hw fd_12_0.1 fd_12_0.2.1 fd_12_0.2.2.1 fd_12_0.2.2.2.1 fd_12_0.2.2.2.2 rfl rfl (tyX12_ok 0 (by decide)) tyX12 tyX12_ok nmX12 tw_6_43 dX12_rest_2 (fun H locs hw => ?_)
  refine lv_iload_n hx hb dX12_rest_5 rfl (lv_at hl 1 rfl) ?_
  refine lv_if_ge (tgt := 12) hx hb dX12_rest_6 (by decide) (fun c2 => ?_) (fun c2 => ?_)
  · have hf := (if_pos c2).symm.trans hf
    refine lv_iconst (v := 0) hx hb dX12_rest_12 (by decide) ?_
    refine lv_istore_n (lv' := [(2, .int 0), (0, .ref v0), (1, .int v1)]) hx hb dX12_rest_13 rfl hl (by decide) rfl (fun ls hl => ?_)
    refine lv_iconst (v := 0) hx hb dX12_rest_14 (by decide) ?_
    refine lv_istore_n (lv' := [(3, .int 0), (2, .int 0), (0, .ref v0), (1, .int v1)]) hx hb dX12_rest_15 rfl hl (by decide) rfl (fun ls hl => ?_)
    exact w_X12_rest_16 G B hz hc0 hr hlk  n h1 v0 v1 0 0 _ _ _ hw (lv_sub hl [2, 3, 1, 0] rfl) hf
  · have hf := (if_neg c2).symm.trans hf
    refine lv_ldc hx hb B.2.2.2.1 (B.w tw_6_165 rfl) dX12_rest_9 ?_
    obtain ⟨rfl, rfl⟩ := so2 hf
    exact q_iret B hw hz hc0 hr hlk dX12_rest_11
/-! SecondLifeModel.cut(JI)J -/
def f_X12_cut (z : Sh) (h : Hp) (v0 : Int64) (v2 : Int32) : Option (Int64) :=
  if v2 = 0 then
    some (Int32.toInt64 ((Int32.toInt8 (Int64.toInt32 v0)).toInt32))
  else
    if v2 = 1 then
      some (Int32.toInt64 ((Int32.toInt16 (Int64.toInt32 v0)).toInt32))
    else
      if v2 = 2 then
        some (Int32.toInt64 (Int64.toInt32 v0))
      else
        some v0
set_option maxHeartbeats 4000000 in
theorem c_X12_cut {l : Launch} {s0 : State} {E : Ev} (G : Gl s0 E) {z : Sh} {h : Hp} {v0 : Int64} {v2 : Int32} {r : Int64} (hf : f_X12_cut z h v0 v2 = some r) : Ct l s0 E yX12_cut cX12_cut 3 (some .long) 0 0 [.long v0, .int v2] z h h (some (.long r)) := by
  refine Ct.of G (by decide) (Nat.le_of_ble_eq_true rfl) ?_
  intro p e s m below meth c ls B hw hz hc0 hr hlk hl
  have B : Bd p s0 s E m c cX12_cut 3 RX12 := B
  have hx := B.1
  have hb := B.2.1
  have hl : lv_has ls 3 [(0, .long v0), (2, .int v2)] := hl
  unfold f_X12_cut at hf
  refine lv_iload_n hx hb dX12_cut_0 rfl (lv_at hl 1 rfl) ?_
  refine lv_if_ne (tgt := 11) hx hb dX12_cut_1 (by decide) (fun c1 => ?_) (fun c1 => ?_)
  · have hf := (if_neg c1).symm.trans hf
    refine lv_iload_n hx hb dX12_cut_11 rfl (lv_at hl 1 rfl) ?_
    refine lv_iconst (v := 1) hx hb dX12_cut_12 (by decide) ?_
    refine lv_icmp_ne (tgt := 23) hx hb dX12_cut_13 (by decide) (fun c2 => ?_) (fun c2 => ?_)
    · have hf := (if_neg c2).symm.trans hf
      refine lv_iload_n hx hb dX12_cut_23 rfl (lv_at hl 1 rfl) ?_
      refine lv_iconst (v := 2) hx hb dX12_cut_24 (by decide) ?_
      refine lv_icmp_ne (tgt := 34) hx hb dX12_cut_25 (by decide) (fun c3 => ?_) (fun c3 => ?_)
      · have hf := (if_neg c3).symm.trans hf
        refine lv_lload_n hx hb dX12_cut_34 rfl (lv_at hl 0 rfl) ?_
        obtain rfl := so hf
        exact q_lret B hw hz hc0 hr hlk dX12_cut_35
      · have hf := (if_pos c3).symm.trans hf
        refine lv_lload_n hx hb dX12_cut_28 rfl (lv_at hl 0 rfl) ?_
        refine lv_l2i (v := (Int64.toInt32 v0)) hx hb dX12_cut_29 rfl ?_
        refine lv_i2l (v := (Int32.toInt64 (Int64.toInt32 v0))) hx hb dX12_cut_30 rfl ?_
        refine lv_goto (tgt := 35) hx hb dX12_cut_31 (by decide) ?_
        obtain rfl := so hf
        exact q_lret B hw hz hc0 hr hlk dX12_cut_35
    · have hf := (if_pos c2).symm.trans hf
      refine lv_lload_n hx hb dX12_cut_16 rfl (lv_at hl 0 rfl) ?_
      refine lv_l2i (v := (Int64.toInt32 v0)) hx hb dX12_cut_17 rfl ?_
      refine lv_i2s (v := ((Int32.toInt16 (Int64.toInt32 v0)).toInt32)) hx hb dX12_cut_18 rfl ?_
      refine lv_i2l (v := (Int32.toInt64 ((Int32.toInt16 (Int64.toInt32 v0)).toInt32))) hx hb dX12_cut_19 rfl ?_
      refine lv_goto (tgt := 35) hx hb dX12_cut_20 (by decide) ?_
      obtain rfl := so hf
      exact q_lret B hw hz hc0 hr hlk dX12_cut_35
  · have hf := (if_pos c1).symm.trans hf
    refine lv_lload_n hx hb dX12_cut_4 rfl (lv_at hl 0 rfl) ?_
    refine lv_l2i (v := (Int64.toInt32 v0)) hx hb dX12_cut_5 rfl ?_
    refine lv_i2b (v := ((Int32.toInt8 (Int64.toInt32 v0)).toInt32)) hx hb dX12_cut_6 rfl ?_
    refine lv_i2l (v := (Int32.toInt64 ((Int32.toInt8 (Int64.toInt32 v0)).toInt32))) hx hb dX12_cut_7 rfl ?_
    refine lv_goto (tgt := 35) hx hb dX12_cut_8 (by decide) ?_
    obtain rfl := so hf
    exact q_lret B hw hz hc0 hr hlk dX12_cut_35
