/-! SecondLifeModel.numbers(III)I -/
def f_X12_numbers_64 (n : Nat) (z : Sh) : Nat → Hp → Nat → Int32 → Int32 → Int32 → Option (Int32 × Hp)
  | 0, _, _, _, _, _ => none
  | i + 1, h, v0, v1, v3, v4 =>
    if v3 ≤ v4 then
      some ((0 : Int32), h)
    else
      (gR z h 12 v0 35).bind fun a2 =>
      (stJ z h a2 ((40 * v1) + v4) 0).bind fun h3 =>
      (some (v4 + 1)).bind fun x4 =>
      (f_X12_numbers_64 n z i) h3 v0 v1 v3 x4
def f_X12_numbers (n : Nat) (z : Sh) (h : Hp) (v0 : Nat) (v1 : Int32) (v2 : Int32) (v3 : Int32) : Option (Int32 × Hp) :=
  if z.K v0 = 12 then
    (pI z h 12 v0 0 0).bind fun h1 =>
    (f_X12_within z h1 (Int32.toInt64 v1) 0 3).bind fun x2 =>
    if x2 = 0 then
      some (((-99000002) : Int32), h1)
    else
      (f_X12_within z h1 (Int32.toInt64 v2) 0 3).bind fun x4 =>
      if x4 = 0 then
        some (((-99000002) : Int32), h1)
      else
        (f_X12_within z h1 (Int32.toInt64 v3) 0 40).bind fun x6 =>
        if x6 = 0 then
          some (((-99000003) : Int32), h1)
        else
          (gR z h1 12 v0 33).bind fun a8 =>
          (stI z h1 a8 v1 v2).bind fun h9 =>
          (gR z h9 12 v0 34).bind fun a10 =>
          (stI z h9 a10 v1 v3).bind fun h11 =>
          f_X12_numbers_64 n z n h11 v0 v1 v3 0
  else none
theorem k_X12_numbers {n : Nat} {z : Sh} {h : Hp} {v0 : Nat} {v1 : Int32} {v2 : Int32} {v3 : Int32} {w : Int32 × Hp} (hf : f_X12_numbers n z h v0 v1 v2 v3 = some w) : z.K v0 = 12 := by
  unfold f_X12_numbers at hf
  exact (if_some hf).1
set_option maxHeartbeats 4000000 in
theorem w_X12_numbers_64 {p : Program} {l : Launch} {e : Env} {s : State} {m : MethodId} {args : Array Value} {below : List Frame} {meth : Method} {c : Code} {s0 : State} {E : Ev} {z : Sh} {n : Nat} {r : Int32} {h' : Hp} (G : Gl s0 E) (B : Bd p s0 s E m c cX12_numbers 5 RX12) (hz : s0.heap.size ≤ z.sz) (hc0 : s.heap.size + 0 = z.sz) (hr : meth.sig.returnType = (some .int)) (hlk : meth.locks = false) : ∀ (i : Nat), ∀ (h : Hp) (v0 : Nat) (v1 : Int32) (v3 : Int32) (v4 : Int32) (H : Heap) (locs : List Loc) (ls : Array Slot), Pw s0 s E z h H locs → lv_has ls 5 [(0, .ref v0), (1, .int v1), (3, .int v3), (4, .int v4)] → f_X12_numbers_64 n z i h v0 v1 v3 v4 = some (r, h') → W p l e (rmO 1 25) s m args below meth c H locs 0 0 (Zt below s0 E z h' (some (.int r)) args s 0 0) (F0 m 64 ls []) := by
  have hx := B.1
  have hb := B.2.1
  intro i
  induction i with
  | zero =>
    intro h v0 v1 v3 v4 H locs ls hw hl hf
    have hf := (f_X12_numbers_64.eq_1 ..).symm.trans hf
    cases hf
  | succ i ih =>
    intro h v0 v1 v3 v4 H locs ls hw hl hf
    have hf := (f_X12_numbers_64.eq_2 ..).symm.trans hf
    refine lv_iload hx hb dX12_numbers_64 (lv_at hl 3 rfl) ?_
    refine lv_iload_n hx hb dX12_numbers_66 rfl (lv_at hl 2 rfl) ?_
    refine lv_icmp_ge (tgt := 89) hx hb dX12_numbers_67 (by decide) (fun c1 => ?_) (fun c1 => ?_)
    · have hf := (if_pos c1).symm.trans hf
      refine lv_iconst (v := 0) hx hb dX12_numbers_89 (by decide) ?_
      obtain ⟨rfl, rfl⟩ := so2 hf
      exact q_iret B hw hz hc0 hr hlk dX12_numbers_90
    · have hf := (if_neg c1).symm.trans hf
      refine lv_aload_n hx hb dX12_numbers_70 rfl (lv_at hl 0 rfl) ?_
      obtain ⟨a2, e, hf⟩ := ob hf
      refine q_getR e B hw fd_12_35.1 fd_12_35.2.1 fd_12_35.2.2.1 fd_12_35.2.2.2.1 fd_12_35.2.2.2.2 rfl tw_6_78 dX12_numbers_71 ?_
      refine lv_bipush (v := 40) hx hb dX12_numbers_74 (by decide) ?_
      refine lv_iload_n hx hb dX12_numbers_76 rfl (lv_at hl 1 rfl) ?_
      refine lv_imul hx hb dX12_numbers_77 ?_
      refine lv_iload hx hb dX12_numbers_78 (lv_at hl 3 rfl) ?_
      refine lv_iadd hx hb dX12_numbers_80 ?_
      refine lv_lconst (v := 0) hx hb dX12_numbers_81 (by decide) ?_
      obtain ⟨h3, e, hf⟩ := ob hf
      refine q_stJ e B hw dX12_numbers_82 (fun H locs hw => ?_)
      obtain ⟨x4, e, hf⟩ := ob hf
      refine lv_iinc (v := x4) (lv' := [(4, .int x4), (0, .ref v0), (1, .int v1), (3, .int v3)]) hx hb dX12_numbers_83 hl (k := 3) rfl (Option.some.inj e) (by decide) rfl (fun ls hl => ?_)
      refine lv_goto (tgt := 64) hx hb dX12_numbers_86 (by decide) ?_
      exact ih h3 v0 v1 v3 x4 _ _ _ hw (lv_sub hl [1, 2, 3, 0] rfl) hf
set_option maxHeartbeats 4000000 in
theorem c_X12_numbers {l : Launch} {s0 : State} {E : Ev} (G : Gl s0 E) {n : Nat} {z : Sh} {h : Hp} {v0 : Nat} {v1 : Int32} {v2 : Int32} {v3 : Int32} {r : Int32} {h' : Hp} (hf : f_X12_numbers n z h v0 v1 v2 v3 = some (r, h')) : Ct l s0 E yX12_numbers cX12_numbers 5 (some .int) 1 25 [.ref v0, .int v1, .int v2, .int v3] z h h' (some (.int r)) := by
  refine Ct.of G (by decide) (Nat.le_of_ble_eq_true rfl) ?_
  intro p e s m below meth c ls B hw hz hc0 hr hlk hl
  have B : Bd p s0 s E m c cX12_numbers 5 RX12 := B
  have hx := B.1
  have hb := B.2.1
  have hl : lv_has ls 5 [(0, .ref v0), (1, .int v1), (2, .int v2), (3, .int v3)] := hl
  unfold f_X12_numbers at hf
  obtain ⟨_, hf⟩ := if_some hf
  refine lv_aload_n hx hb dX12_numbers_0 rfl (lv_at hl 0 rfl) ?_
  refine lv_iconst (v := 0) hx hb dX12_numbers_1 (by decide) ?_
  obtain ⟨h1, e, hf⟩ := ob hf
  refine q_putI e B hw fd_12_0.1 fd_12_0.2.1 fd_12_0.2.2.1 fd_12_0.2.2.2.1 fd_12_0.2.2.2.2 rfl rfl (tyX12_ok 0 (by decide)) tyX12 tyX12_ok nmX12 tw_6_43 dX12_numbers_2 (fun H locs hw => ?_)
  refine lv_iload_n hx hb dX12_numbers_5 rfl (lv_at hl 1 rfl) ?_
  refine lv_i2l (v := (Int32.toInt64 v1)) hx hb dX12_numbers_6 rfl ?_
  refine lv_lconst (v := 0) hx hb dX12_numbers_7 (by decide) ?_
  refine lv_ldc2 hx hb B.2.2.2.1 (B.w tw_7_175 rfl) dX12_numbers_8 ?_
  obtain ⟨x2, e, hf⟩ := ob hf
  refine q_callS (As := [.long (Int32.toInt64 v1), .long 0, .long 3]) (rest := []) (st1 := [.int x2]) (c_X12_within G e) B hw hz hc0 my_X12_within mv_X12_within tw_6_162 ⟨Nat.le_of_ble_eq_true rfl, Nat.le_of_ble_eq_true rfl⟩ ⟨Nat.zero_le _, Nat.zero_le _⟩ rfl hl.1 rfl rfl (Nat.le_of_ble_eq_true rfl) dX12_numbers_11 (fun H locs hw => ?_)
  refine lv_if_eq (tgt := 29) hx hb dX12_numbers_14 (by decide) (fun c3 => ?_) (fun c3 => ?_)
  · have hf := (if_pos c3).symm.trans hf
    refine lv_ldc hx hb B.2.2.2.1 (B.w tw_7_39 rfl) dX12_numbers_29 ?_
    obtain ⟨rfl, rfl⟩ := so2 hf
    exact q_iret B hw hz hc0 hr hlk dX12_numbers_31
  · have hf := (if_neg c3).symm.trans hf
    refine lv_iload_n hx hb dX12_numbers_17 rfl (lv_at hl 2 rfl) ?_
    refine lv_i2l (v := (Int32.toInt64 v2)) hx hb dX12_numbers_18 rfl ?_
    refine lv_lconst (v := 0) hx hb dX12_numbers_19 (by decide) ?_
    refine lv_ldc2 hx hb B.2.2.2.1 (B.w tw_7_175 rfl) dX12_numbers_20 ?_
    obtain ⟨x4, e, hf⟩ := ob hf
    refine q_callS (As := [.long (Int32.toInt64 v2), .long 0, .long 3]) (rest := []) (st1 := [.int x4]) (c_X12_within G e) B hw hz hc0 my_X12_within mv_X12_within tw_6_162 ⟨Nat.le_of_ble_eq_true rfl, Nat.le_of_ble_eq_true rfl⟩ ⟨Nat.zero_le _, Nat.zero_le _⟩ rfl hl.1 rfl rfl (Nat.le_of_ble_eq_true rfl) dX12_numbers_23 (fun H locs hw => ?_)
    refine lv_if_ne (tgt := 32) hx hb dX12_numbers_26 (by decide) (fun c5 => ?_) (fun c5 => ?_)
    · have hf := (if_neg c5).symm.trans hf
      refine lv_iload_n hx hb dX12_numbers_32 rfl (lv_at hl 3 rfl) ?_
      refine lv_i2l (v := (Int32.toInt64 v3)) hx hb dX12_numbers_33 rfl ?_
      refine lv_lconst (v := 0) hx hb dX12_numbers_34 (by decide) ?_
      refine lv_ldc2 hx hb B.2.2.2.1 (B.w tw_7_219 rfl) dX12_numbers_35 ?_
      obtain ⟨x6, e, hf⟩ := ob hf
      refine q_callS (As := [.long (Int32.toInt64 v3), .long 0, .long 40]) (rest := []) (st1 := [.int x6]) (c_X12_within G e) B hw hz hc0 my_X12_within mv_X12_within tw_6_162 ⟨Nat.le_of_ble_eq_true rfl, Nat.le_of_ble_eq_true rfl⟩ ⟨Nat.zero_le _, Nat.zero_le _⟩ rfl hl.1 rfl rfl (Nat.le_of_ble_eq_true rfl) dX12_numbers_38 (fun H locs hw => ?_)
      refine lv_if_ne (tgt := 47) hx hb dX12_numbers_41 (by decide) (fun c7 => ?_) (fun c7 => ?_)
      · have hf := (if_neg c7).symm.trans hf
        refine lv_aload_n hx hb dX12_numbers_47 rfl (lv_at hl 0 rfl) ?_
        obtain ⟨a8, e, hf⟩ := ob hf
        refine q_getR e B hw fd_12_33.1 fd_12_33.2.1 fd_12_33.2.2.1 fd_12_33.2.2.2.1 fd_12_33.2.2.2.2 rfl tw_6_76 dX12_numbers_48 ?_
        refine lv_iload_n hx hb dX12_numbers_51 rfl (lv_at hl 1 rfl) ?_
        refine lv_iload_n hx hb dX12_numbers_52 rfl (lv_at hl 2 rfl) ?_
        obtain ⟨h9, e, hf⟩ := ob hf
        refine q_stI e B hw dX12_numbers_53 (fun H locs hw => ?_)
        refine lv_aload_n hx hb dX12_numbers_54 rfl (lv_at hl 0 rfl) ?_
        obtain ⟨a10, e, hf⟩ := ob hf
        refine q_getR e B hw fd_12_34.1 fd_12_34.2.1 fd_12_34.2.2.1 fd_12_34.2.2.2.1 fd_12_34.2.2.2.2 rfl tw_6_77 dX12_numbers_55 ?_
        refine lv_iload_n hx hb dX12_numbers_58 rfl (lv_at hl 1 rfl) ?_
        refine lv_iload_n hx hb dX12_numbers_59 rfl (lv_at hl 3 rfl) ?_
        obtain ⟨h11, e, hf⟩ := ob hf
        refine q_stI e B hw dX12_numbers_60 (fun H locs hw => ?_)
        refine lv_iconst (v := 0) hx hb dX12_numbers_61 (by decide) ?_
        refine lv_istore (lv' := [(4, .int 0), (0, .ref v0), (1, .int v1), (2, .int v2), (3, .int v3)]) hx hb dX12_numbers_62 hl (by decide) rfl (fun ls hl => ?_)
        exact w_X12_numbers_64 G B hz hc0 hr hlk  n h11 v0 v1 v3 0 _ _ _ hw (lv_sub hl [1, 2, 4, 0] rfl) hf
      · have hf := (if_pos c7).symm.trans hf
        refine lv_ldc hx hb B.2.2.2.1 (B.w tw_6_165 rfl) dX12_numbers_44 ?_
        obtain ⟨rfl, rfl⟩ := so2 hf
        exact q_iret B hw hz hc0 hr hlk dX12_numbers_46
    · have hf := (if_pos c5).symm.trans hf
      refine lv_ldc hx hb B.2.2.2.1 (B.w tw_7_39 rfl) dX12_numbers_29 ?_
      obtain ⟨rfl, rfl⟩ := so2 hf
      exact q_iret B hw hz hc0 hr hlk dX12_numbers_31
/-! SecondLifeModel.write(IIJ)J -/
def f_X12_write (z : Sh) (h : Hp) (v0 : Nat) (v1 : Int32) (v2 : Int32) (v3 : Int64) : Option (Int64 × Hp) :=
  if z.K v0 = 12 then
    (pI z h 12 v0 0 0).bind fun h1 =>
    (f_X12_noTray z h1 v0 v1).bind fun x2 =>
    if x2 = 0 then
      (gR z h1 12 v0 34).bind fun a4 =>
      (ldI z h1 a4 v1).bind fun x5 =>
      (f_X12_within z h1 (Int32.toInt64 v2) 0 (Int32.toInt64 (x5 - 1))).bind fun x6 =>
      if x6 = 0 then
        some (((-99000007) : Int64), h1)
      else
        (gR z h1 12 v0 35).bind fun a8 =>
        (gR z h1 12 v0 33).bind fun a9 =>
        (ldI z h1 a9 v1).bind fun x10 =>
        (f_X12_cut z h1 v3 x10).bind fun x11 =>
        (stJ z h1 a8 ((40 * v1) + v2) x11).bind fun h12 =>
        (gR z h12 12 v0 35).bind fun a13 =>
        (ldJ z h12 a13 ((40 * v1) + v2)).bind fun x14 =>
        some (x14, h12)
    else
      some ((Int32.toInt64 x2), h1)
  else none
theorem k_X12_write {z : Sh} {h : Hp} {v0 : Nat} {v1 : Int32} {v2 : Int32} {v3 : Int64} {w : Int64 × Hp} (hf : f_X12_write z h v0 v1 v2 v3 = some w) : z.K v0 = 12 := by
  unfold f_X12_write at hf
  exact (if_some hf).1
set_option maxHeartbeats 4000000 in
theorem c_X12_write {l : Launch} {s0 : State} {E : Ev} (G : Gl s0 E) {z : Sh} {h : Hp} {v0 : Nat} {v1 : Int32} {v2 : Int32} {v3 : Int64} {r : Int64} {h' : Hp} (hf : f_X12_write z h v0 v1 v2 v3 = some (r, h')) : Ct l s0 E yX12_write cX12_write 6 (some .long) 2 46 [.ref v0, .int v1, .int v2, .long v3] z h h' (some (.long r)) := by
  refine Ct.of G (by decide) (Nat.le_of_ble_eq_true rfl) ?_
  intro p e s m below meth c ls B hw hz hc0 hr hlk hl
  have B : Bd p s0 s E m c cX12_write 6 RX12 := B
  have hx := B.1
  have hb := B.2.1
  have hl : lv_has ls 6 [(0, .ref v0), (1, .int v1), (2, .int v2), (3, .long v3)] := hl
  unfold f_X12_write at hf
  obtain ⟨_, hf⟩ := if_some hf
  refine lv_aload_n hx hb dX12_write_0 rfl (lv_at hl 0 rfl) ?_
  refine lv_iconst (v := 0) hx hb dX12_write_1 (by decide) ?_
  obtain ⟨h1, e, hf⟩ := ob hf
  refine q_putI e B hw fd_12_0.1 fd_12_0.2.1 fd_12_0.2.2.1 fd_12_0.2.2.2.1 fd_12_0.2.2.2.2 rfl rfl (tyX12_ok 0 (by decide)) tyX12 tyX12_ok nmX12 tw_6_43 dX12_write_2 (fun H locs hw => ?_)
  refine lv_aload_n hx hb dX12_write_5 rfl (lv_at hl 0 rfl) ?_
  refine lv_iload_n hx hb dX12_write_6 rfl (lv_at hl 1 rfl) ?_
  obtain ⟨x2, e, hf⟩ := ob hf
  refine q_callV (As := [.int v1]) (rest := []) (st1 := [.int x2]) (c_X12_noTray G e) B hw hz hc0 (k_X12_noTray e) (by decide) (ci := 12) rfl rfl my_X12_noTray mv_X12_noTray tw_7_176 ⟨Nat.le_of_ble_eq_true rfl, Nat.le_of_ble_eq_true rfl⟩ ⟨Nat.zero_le _, Nat.zero_le _⟩ rfl hl.1 rfl rfl (Nat.le_of_ble_eq_true rfl) dX12_write_7 (fun H locs hw => ?_)
  refine lv_istore (lv' := [(5, .int x2), (0, .ref v0), (1, .int v1), (2, .int v2), (3, .long v3)]) hx hb dX12_write_10 hl (by decide) rfl (fun ls hl => ?_)
  refine lv_iload hx hb dX12_write_12 (lv_at hl 0 rfl) ?_
  refine lv_if_eq (tgt := 21) hx hb dX12_write_14 (by decide) (fun c3 => ?_) (fun c3 => ?_)
  · have hf := (if_pos c3).symm.trans hf
    refine lv_iload_n hx hb dX12_write_21 rfl (lv_at hl 3 rfl) ?_
    refine lv_i2l (v := (Int32.toInt64 v2)) hx hb dX12_write_22 rfl ?_
    refine lv_lconst (v := 0) hx hb dX12_write_23 (by decide) ?_
    refine lv_aload_n hx hb dX12_write_24 rfl (lv_at hl 1 rfl) ?_
    obtain ⟨a4, e, hf⟩ := ob hf
    refine q_getR e B hw fd_12_34.1 fd_12_34.2.1 fd_12_34.2.2.1 fd_12_34.2.2.2.1 fd_12_34.2.2.2.2 rfl tw_6_77 dX12_write_25 ?_
    refine lv_iload_n hx hb dX12_write_28 rfl (lv_at hl 2 rfl) ?_
    obtain ⟨x5, e, hf⟩ := ob hf
    refine q_ldI e B hw dX12_write_29 ?_
    refine lv_iconst (v := 1) hx hb dX12_write_30 (by decide) ?_
    refine lv_isub hx hb dX12_write_31 ?_
    refine lv_i2l (v := (Int32.toInt64 (x5 - 1))) hx hb dX12_write_32 rfl ?_
    obtain ⟨x6, e, hf⟩ := ob hf
    refine q_callS (As := [.long (Int32.toInt64 v2), .long 0, .long (Int32.toInt64 (x5 - 1))]) (rest := []) (st1 := [.int x6]) (c_X12_within G e) B hw hz hc0 my_X12_within mv_X12_within tw_6_162 ⟨Nat.le_of_ble_eq_true rfl, Nat.le_of_ble_eq_true rfl⟩ ⟨Nat.zero_le _, Nat.zero_le _⟩ rfl hl.1 rfl rfl (Nat.le_of_ble_eq_true rfl) dX12_write_33 (fun H locs hw => ?_)
    refine lv_if_ne (tgt := 43) hx hb dX12_write_36 (by decide) (fun c7 => ?_) (fun c7 => ?_)
    · have hf := (if_neg c7).symm.trans hf
      refine lv_aload_n hx hb dX12_write_43 rfl (lv_at hl 1 rfl) ?_
      obtain ⟨a8, e, hf⟩ := ob hf
      refine q_getR e B hw fd_12_35.1 fd_12_35.2.1 fd_12_35.2.2.1 fd_12_35.2.2.2.1 fd_12_35.2.2.2.2 rfl tw_6_78 dX12_write_44 ?_
      refine lv_bipush (v := 40) hx hb dX12_write_47 (by decide) ?_
      refine lv_iload_n hx hb dX12_write_49 rfl (lv_at hl 2 rfl) ?_
      refine lv_imul hx hb dX12_write_50 ?_
      refine lv_iload_n hx hb dX12_write_51 rfl (lv_at hl 3 rfl) ?_
      refine lv_iadd hx hb dX12_write_52 ?_
      refine lv_lload_n hx hb dX12_write_53 rfl (lv_at hl 4 rfl) ?_
      refine lv_aload_n hx hb dX12_write_54 rfl (lv_at hl 1 rfl) ?_
      obtain ⟨a9, e, hf⟩ := ob hf
      refine q_getR e B hw fd_12_33.1 fd_12_33.2.1 fd_12_33.2.2.1 fd_12_33.2.2.2.1 fd_12_33.2.2.2.2 rfl tw_6_76 dX12_write_55 ?_
      refine lv_iload_n hx hb dX12_write_58 rfl (lv_at hl 2 rfl) ?_
      obtain ⟨x10, e, hf⟩ := ob hf
      refine q_ldI e B hw dX12_write_59 ?_
      obtain ⟨x11, e, hf⟩ := ob hf
      refine q_callS (As := [.long v3, .int x10]) (rest := [.int ((40 * v1) + v2), .ref a8]) (st1 := [.long x11, .int ((40 * v1) + v2), .ref a8]) (c_X12_cut G e) B hw hz hc0 my_X12_cut mv_X12_cut tw_8_187 ⟨Nat.le_of_ble_eq_true rfl, Nat.le_of_ble_eq_true rfl⟩ ⟨Nat.zero_le _, Nat.zero_le _⟩ rfl hl.1 rfl rfl (Nat.le_of_ble_eq_true rfl) dX12_write_60 (fun H locs hw => ?_)
      obtain ⟨h12, e, hf⟩ := ob hf
      refine q_stJ e B hw dX12_write_63 (fun H locs hw => ?_)
      refine lv_aload_n hx hb dX12_write_64 rfl (lv_at hl 1 rfl) ?_
      obtain ⟨a13, e, hf⟩ := ob hf
      refine q_getR e B hw fd_12_35.1 fd_12_35.2.1 fd_12_35.2.2.1 fd_12_35.2.2.2.1 fd_12_35.2.2.2.2 rfl tw_6_78 dX12_write_65 ?_
      refine lv_bipush (v := 40) hx hb dX12_write_68 (by decide) ?_
      refine lv_iload_n hx hb dX12_write_70 rfl (lv_at hl 2 rfl) ?_
      refine lv_imul hx hb dX12_write_71 ?_
      refine lv_iload_n hx hb dX12_write_72 rfl (lv_at hl 3 rfl) ?_
      refine lv_iadd hx hb dX12_write_73 ?_
      obtain ⟨x14, e, hf⟩ := ob hf
      refine q_ldJ e B hw dX12_write_74 ?_
      obtain ⟨rfl, rfl⟩ := so2 hf
      exact q_lret B hw hz hc0 hr hlk dX12_write_75
    · have hf := (if_pos c7).symm.trans hf
      refine lv_ldc2 hx hb B.2.2.2.1 (B.w tw_8_186 rfl) dX12_write_39 ?_
      obtain ⟨rfl, rfl⟩ := so2 hf
      exact q_lret B hw hz hc0 hr hlk dX12_write_42
  · have hf := (if_neg c3).symm.trans hf
    refine lv_iload hx hb dX12_write_17 (lv_at hl 0 rfl) ?_
    refine lv_i2l (v := (Int32.toInt64 x2)) hx hb dX12_write_19 rfl ?_
    obtain ⟨rfl, rfl⟩ := so2 hf
    exact q_lret B hw hz hc0 hr hlk dX12_write_20
/-! SecondLifeModel.lists(II)I -/
def f_X12_lists_109 (n : Nat) (z : Sh) (k44 : Hp → Nat → Int32 → Int32 → Int32 → Option (Int32 × Hp)) (h : Hp) (v0 : Nat) (v1 : Int32) (v2 : Int32) (v4 : Int32) (u0 : Int64) (u1 : Int32) (u2 : Nat) : Option (Int32 × Hp) :=
  (gR z h 12 v0 33).bind fun a1 =>
  (ldI z h a1 v1).bind fun x2 =>
  (f_X12_cut z h u0 x2).bind fun x3 =>
  (stJ z h u2 u1 x3).bind fun h4 =>
  (some (v4 + 1)).bind fun x5 =>
  k44 h4 v0 v1 v2 x5
def f_X12_lists_44 (n : Nat) (z : Sh) : Nat → Hp → Nat → Int32 → Int32 → Int32 → Option (Int32 × Hp)
  | 0, _, _, _, _, _ => none
  | i + 1, h, v0, v1, v2, v4 =>
    (gR z h 12 v0 34).bind fun a1 =>
    (ldI z h a1 v1).bind fun x2 =>
    if x2 ≤ v4 then
      some (v4, h)
    else
      (f_X12_courseAt n z h v0 v2 v4).bind fun (x4, h5) =>
      if x4 = (-1) then
        some (v4, h5)
      else
        (f_X12_courseAt n z h5 v0 v2 v4).bind fun (x7, h8) =>
        (gR z h8 12 v0 35).bind fun a9 =>
        if x7 = 9 then
          f_X12_lists_109 n z (f_X12_lists_44 n z i) h8 v0 v1 v2 v4 (Int32.toInt64 (100 + v2)) ((40 * v1) + v4) a9
        else
          f_X12_lists_109 n z (f_X12_lists_44 n z i) h8 v0 v1 v2 v4 (Int32.toInt64 ((10 * v2) + x7)) ((40 * v1) + v4) a9
def f_X12_lists (n : Nat) (z : Sh) (h : Hp) (v0 : Nat) (v1 : Int32) (v2 : Int32) : Option (Int32 × Hp) :=
  if z.K v0 = 12 then
    (pI z h 12 v0 0 0).bind fun h1 =>
    (f_X12_within z h1 (Int32.toInt64 v1) 0 3).bind fun x2 =>
    if x2 = 0 then
      some (((-99000002) : Int32), h1)
    else
      (f_X12_isPerson z h1 v0 (Int32.toInt64 v2)).bind fun x4 =>
      if x4 = 0 then
        some (((-99000002) : Int32), h1)
      else
        (f_X12_noTray z h1 v0 v1).bind fun x6 =>
        if x6 = 0 then
          f_X12_lists_44 n z n h1 v0 v1 v2 0
        else
          some (x6, h1)
  else none
theorem k_X12_lists {n : Nat} {z : Sh} {h : Hp} {v0 : Nat} {v1 : Int32} {v2 : Int32} {w : Int32 × Hp} (hf : f_X12_lists n z h v0 v1 v2 = some w) : z.K v0 = 12 := by
  unfold f_X12_lists at hf
  exact (if_some hf).1
set_option maxHeartbeats 4000000 in
theorem w_X12_lists_109 {p : Program} {l : Launch} {e : Env} {s : State} {m : MethodId} {args : Array Value} {below : List Frame} {meth : Method} {c : Code} {s0 : State} {E : Ev} {z : Sh} {n : Nat} {k44 : Hp → Nat → Int32 → Int32 → Int32 → Option (Int32 × Hp)} {r : Int32} {h' : Hp} (G : Gl s0 E) (B : Bd p s0 s E m c cX12_lists 6 RX12) (hz : s0.heap.size ≤ z.sz) (hc0 : s.heap.size + 0 = z.sz) (hr : meth.sig.returnType = (some .int)) (hlk : meth.locks = false) (hk44 : ∀ (h : Hp) (v0 : Nat) (v1 : Int32) (v2 : Int32) (v4 : Int32) (H : Heap) (locs : List Loc) (ls : Array Slot), Pw s0 s E z h H locs → lv_has ls 6 [(0, .ref v0), (1, .int v1), (2, .int v2), (4, .int v4)] → k44 h v0 v1 v2 v4 = some (r, h') → W p l e (rmO 27 1344) s m args below meth c H locs 0 0 (Zt below s0 E z h' (some (.int r)) args s 0 0) (F0 m 44 ls [])) : ∀ (h : Hp) (v0 : Nat) (v1 : Int32) (v2 : Int32) (v4 : Int32) (u0 : Int64) (u1 : Int32) (u2 : Nat) (H : Heap) (locs : List Loc) (ls : Array Slot), Pw s0 s E z h H locs → lv_has ls 6 [(0, .ref v0), (1, .int v1), (2, .int v2), (4, .int v4)] → f_X12_lists_109 n z k44 h v0 v1 v2 v4 u0 u1 u2 = some (r, h') → W p l e (rmO 27 1344) s m args below meth c H locs 0 0 (Zt below s0 E z h' (some (.int r)) args s 0 0) (F0 m 109 ls [.long u0, .int u1, .ref u2]) := by
  have hx := B.1
  have hb := B.2.1
  intro h v0 v1 v2 v4 u0 u1 u2 H locs ls hw hl hf
  unfold f_X12_lists_109 at hf
  refine lv_aload_n hx hb dX12_lists_109 rfl (lv_at hl 0 rfl) ?_
  obtain ⟨a1, e, hf⟩ := ob hf
  refine q_getR e B hw fd_12_33.1 fd_12_33.2.1 fd_12_33.2.2.1 fd_12_33.2.2.2.1 fd_12_33.2.2.2.2 rfl tw_6_76 dX12_lists_110 ?_
  refine lv_iload_n hx hb dX12_lists_113 rfl (lv_at hl 1 rfl) ?_
  obtain ⟨x2, e, hf⟩ := ob hf
  refine q_ldI e B hw dX12_lists_114 ?_
  obtain ⟨x3, e, hf⟩ := ob hf
  refine q_callS (As := [.long u0, .int x2]) (rest := [.int u1, .ref u2]) (st1 := [.long x3, .int u1, .ref u2]) (c_X12_cut G e) B hw hz hc0 my_X12_cut mv_X12_cut tw_8_187 ⟨Nat.le_of_ble_eq_true rfl, Nat.le_of_ble_eq_true rfl⟩ ⟨Nat.zero_le _, Nat.zero_le _⟩ rfl hl.1 rfl rfl (Nat.le_of_ble_eq_true rfl) dX12_lists_115 (fun H locs hw => ?_)
  obtain ⟨h4, e, hf⟩ := ob hf
  refine q_stJ e B hw dX12_lists_118 (fun H locs hw => ?_)
  obtain ⟨x5, e, hf⟩ := ob hf
  refine lv_iinc (v := x5) (lv' := [(4, .int x5), (0, .ref v0), (1, .int v1), (2, .int v2)]) hx hb dX12_lists_119 hl (k := 3) rfl (Option.some.inj e) (by decide) rfl (fun ls hl => ?_)
  refine lv_goto (tgt := 44) hx hb dX12_lists_122 (by decide) ?_
  exact hk44 h4 v0 v1 v2 x5 _ _ _ hw (lv_sub hl [1, 2, 3, 0] rfl) hf
set_option maxHeartbeats 4000000 in
theorem w_X12_lists_44 {p : Program} {l : Launch} {e : Env} {s : State} {m : MethodId} {args : Array Value} {below : List Frame} {meth : Method} {c : Code} {s0 : State} {E : Ev} {z : Sh} {n : Nat} {r : Int32} {h' : Hp} (G : Gl s0 E) (B : Bd p s0 s E m c cX12_lists 6 RX12) (hz : s0.heap.size ≤ z.sz) (hc0 : s.heap.size + 0 = z.sz) (hr : meth.sig.returnType = (some .int)) (hlk : meth.locks = false) : ∀ (i : Nat), ∀ (h : Hp) (v0 : Nat) (v1 : Int32) (v2 : Int32) (v4 : Int32) (H : Heap) (locs : List Loc) (ls : Array Slot), Pw s0 s E z h H locs → lv_has ls 6 [(0, .ref v0), (1, .int v1), (2, .int v2), (4, .int v4)] → f_X12_lists_44 n z i h v0 v1 v2 v4 = some (r, h') → W p l e (rmO 27 1344) s m args below meth c H locs 0 0 (Zt below s0 E z h' (some (.int r)) args s 0 0) (F0 m 44 ls []) := by
  have hx := B.1
  have hb := B.2.1
  intro i
  induction i with
  | zero =>
    intro h v0 v1 v2 v4 H locs ls hw hl hf
    have hf := (f_X12_lists_44.eq_1 ..).symm.trans hf
    cases hf
  | succ i ih =>
    intro h v0 v1 v2 v4 H locs ls hw hl hf
    have hf := (f_X12_lists_44.eq_2 ..).symm.trans hf
    refine lv_iload hx hb dX12_lists_44 (lv_at hl 3 rfl) ?_
    refine lv_aload_n hx hb dX12_lists_46 rfl (lv_at hl 0 rfl) ?_
    obtain ⟨a1, e, hf⟩ := ob hf
    refine q_getR e B hw fd_12_34.1 fd_12_34.2.1 fd_12_34.2.2.1 fd_12_34.2.2.2.1 fd_12_34.2.2.2.2 rfl tw_6_77 dX12_lists_47 ?_
    refine lv_iload_n hx hb dX12_lists_50 rfl (lv_at hl 1 rfl) ?_
    obtain ⟨x2, e, hf⟩ := ob hf
    refine q_ldI e B hw dX12_lists_51 ?_
    refine lv_icmp_ge (tgt := 125) hx hb dX12_lists_52 (by decide) (fun c3 => ?_) (fun c3 => ?_)
    · have hf := (if_pos c3).symm.trans hf
      refine lv_iload hx hb dX12_lists_125 (lv_at hl 3 rfl) ?_
      obtain ⟨rfl, rfl⟩ := so2 hf
      exact q_iret B hw hz hc0 hr hlk dX12_lists_127
    · have hf := (if_neg c3).symm.trans hf
      refine lv_aload_n hx hb dX12_lists_55 rfl (lv_at hl 0 rfl) ?_
      refine lv_iload_n hx hb dX12_lists_56 rfl (lv_at hl 2 rfl) ?_
      refine lv_iload hx hb dX12_lists_57 (lv_at hl 3 rfl) ?_
      obtain ⟨⟨x4, h5⟩, e, hf⟩ := ob hf
      refine q_callV (As := [.int v2, .int v4]) (rest := []) (st1 := [.int x4]) (c_X12_courseAt G e) B hw hz hc0 (k_X12_courseAt e) (by decide) (ci := 12) rfl rfl my_X12_courseAt mv_X12_courseAt tw_8_9 ⟨Nat.le_of_ble_eq_true rfl, Nat.le_of_ble_eq_true rfl⟩ ⟨Nat.zero_le _, Nat.zero_le _⟩ rfl hl.1 rfl rfl (Nat.le_of_ble_eq_true rfl) dX12_lists_59 (fun H locs hw => ?_)
      refine lv_iconst (v := (-1)) hx hb dX12_lists_62 (by decide) ?_
      refine lv_icmp_eq (tgt := 125) hx hb dX12_lists_63 (by decide) (fun c6 => ?_) (fun c6 => ?_)
      · have hf := (if_pos c6).symm.trans hf
        refine lv_iload hx hb dX12_lists_125 (lv_at hl 3 rfl) ?_
        obtain ⟨rfl, rfl⟩ := so2 hf
        exact q_iret B hw hz hc0 hr hlk dX12_lists_127
      · have hf := (if_neg c6).symm.trans hf
        refine lv_aload_n hx hb dX12_lists_66 rfl (lv_at hl 0 rfl) ?_
        refine lv_iload_n hx hb dX12_lists_67 rfl (lv_at hl 2 rfl) ?_
        refine lv_iload hx hb dX12_lists_68 (lv_at hl 3 rfl) ?_
        obtain ⟨⟨x7, h8⟩, e, hf⟩ := ob hf
        refine q_callV (As := [.int v2, .int v4]) (rest := []) (st1 := [.int x7]) (c_X12_courseAt G e) B hw hz hc0 (k_X12_courseAt e) (by decide) (ci := 12) rfl rfl my_X12_courseAt mv_X12_courseAt tw_8_9 ⟨Nat.le_of_ble_eq_true rfl, Nat.le_of_ble_eq_true rfl⟩ ⟨Nat.zero_le _, Nat.zero_le _⟩ rfl hl.1 rfl rfl (Nat.le_of_ble_eq_true rfl) dX12_lists_70 (fun H locs hw => ?_)
        refine lv_istore (lv' := [(5, .int x7), (0, .ref v0), (1, .int v1), (2, .int v2), (4, .int v4)]) hx hb dX12_lists_73 hl (by decide) rfl (fun ls hl => ?_)
        refine lv_aload_n hx hb dX12_lists_75 rfl (lv_at hl 1 rfl) ?_
        obtain ⟨a9, e, hf⟩ := ob hf
        refine q_getR e B hw fd_12_35.1 fd_12_35.2.1 fd_12_35.2.2.1 fd_12_35.2.2.2.1 fd_12_35.2.2.2.2 rfl tw_6_78 dX12_lists_76 ?_
        refine lv_bipush (v := 40) hx hb dX12_lists_79 (by decide) ?_
        refine lv_iload_n hx hb dX12_lists_81 rfl (lv_at hl 2 rfl) ?_
        refine lv_imul hx hb dX12_lists_82 ?_
        refine lv_iload hx hb dX12_lists_83 (lv_at hl 4 rfl) ?_
        refine lv_iadd hx hb dX12_lists_85 ?_
        refine lv_iload hx hb dX12_lists_86 (lv_at hl 0 rfl) ?_
        refine lv_bipush (v := 9) hx hb dX12_lists_88 (by decide) ?_
        refine lv_icmp_ne (tgt := 101) hx hb dX12_lists_90 (by decide) (fun c10 => ?_) (fun c10 => ?_)
        · have hf := (if_neg c10).symm.trans hf
          refine lv_bipush (v := 10) hx hb dX12_lists_101 (by decide) ?_
          refine lv_iload_n hx hb dX12_lists_103 rfl (lv_at hl 3 rfl) ?_
          refine lv_imul hx hb dX12_lists_104 ?_
          refine lv_iload hx hb dX12_lists_105 (lv_at hl 0 rfl) ?_
          refine lv_iadd hx hb dX12_lists_107 ?_
          refine lv_i2l (v := (Int32.toInt64 ((10 * v2) + x7))) hx hb dX12_lists_108 rfl ?_
          exact w_X12_lists_109 G B hz hc0 hr hlk ih h8 v0 v1 v2 v4 (Int32.toInt64 ((10 * v2) + x7)) ((40 * v1) + v4) a9 _ _ _ hw (lv_sub hl [1, 2, 3, 4] rfl) hf
        · have hf := (if_pos c10).symm.trans hf
          refine lv_bipush (v := 100) hx hb dX12_lists_93 (by decide) ?_
          refine lv_iload_n hx hb dX12_lists_95 rfl (lv_at hl 3 rfl) ?_
          refine lv_iadd hx hb dX12_lists_96 ?_
          refine lv_i2l (v := (Int32.toInt64 (100 + v2))) hx hb dX12_lists_97 rfl ?_
          refine lv_goto (tgt := 109) hx hb dX12_lists_98 (by decide) ?_
          exact w_X12_lists_109 G B hz hc0 hr hlk ih h8 v0 v1 v2 v4 (Int32.toInt64 (100 + v2)) ((40 * v1) + v4) a9 _ _ _ hw (lv_sub hl [1, 2, 3, 4] rfl) hf
set_option maxHeartbeats 4000000 in
theorem c_X12_lists {l : Launch} {s0 : State} {E : Ev} (G : Gl s0 E) {n : Nat} {z : Sh} {h : Hp} {v0 : Nat} {v1 : Int32} {v2 : Int32} {r : Int32} {h' : Hp} (hf : f_X12_lists n z h v0 v1 v2 = some (r, h')) : Ct l s0 E yX12_lists cX12_lists 6 (some .int) 27 1344 [.ref v0, .int v1, .int v2] z h h' (some (.int r)) := by
  refine Ct.of G (by decide) (Nat.le_of_ble_eq_true rfl) ?_
  intro p e s m below meth c ls B hw hz hc0 hr hlk hl
  have B : Bd p s0 s E m c cX12_lists 6 RX12 := B
  have hx := B.1
  have hb := B.2.1
  have hl : lv_has ls 6 [(0, .ref v0), (1, .int v1), (2, .int v2)] := hl
  unfold f_X12_lists at hf
  obtain ⟨_, hf⟩ := if_some hf
  refine lv_aload_n hx hb dX12_lists_0 rfl (lv_at hl 0 rfl) ?_
  refine lv_iconst (v := 0) hx hb dX12_lists_1 (by decide) ?_
  obtain ⟨h1, e, hf⟩ := ob hf
  refine q_putI e B hw fd_12_0.1 fd_12_0.2.1 fd_12_0.2.2.1 fd_12_0.2.2.2.1 fd_12_0.2.2.2.2 rfl rfl (tyX12_ok 0 (by decide)) tyX12 tyX12_ok nmX12 tw_6_43 dX12_lists_2 (fun H locs hw => ?_)
  refine lv_iload_n hx hb dX12_lists_5 rfl (lv_at hl 1 rfl) ?_
  refine lv_i2l (v := (Int32.toInt64 v1)) hx hb dX12_lists_6 rfl ?_
  refine lv_lconst (v := 0) hx hb dX12_lists_7 (by decide) ?_
  refine lv_ldc2 hx hb B.2.2.2.1 (B.w tw_7_175 rfl) dX12_lists_8 ?_
  obtain ⟨x2, e, hf⟩ := ob hf
  refine q_callS (As := [.long (Int32.toInt64 v1), .long 0, .long 3]) (rest := []) (st1 := [.int x2]) (c_X12_within G e) B hw hz hc0 my_X12_within mv_X12_within tw_6_162 ⟨Nat.le_of_ble_eq_true rfl, Nat.le_of_ble_eq_true rfl⟩ ⟨Nat.zero_le _, Nat.zero_le _⟩ rfl hl.1 rfl rfl (Nat.le_of_ble_eq_true rfl) dX12_lists_11 (fun H locs hw => ?_)
  refine lv_if_eq (tgt := 26) hx hb dX12_lists_14 (by decide) (fun c3 => ?_) (fun c3 => ?_)
  · have hf := (if_pos c3).symm.trans hf
    refine lv_ldc hx hb B.2.2.2.1 (B.w tw_7_39 rfl) dX12_lists_26 ?_
    obtain ⟨rfl, rfl⟩ := so2 hf
    exact q_iret B hw hz hc0 hr hlk dX12_lists_28
  · have hf := (if_neg c3).symm.trans hf
    refine lv_aload_n hx hb dX12_lists_17 rfl (lv_at hl 0 rfl) ?_
    refine lv_iload_n hx hb dX12_lists_18 rfl (lv_at hl 2 rfl) ?_
    refine lv_i2l (v := (Int32.toInt64 v2)) hx hb dX12_lists_19 rfl ?_
    obtain ⟨x4, e, hf⟩ := ob hf
    refine q_callV (As := [.long (Int32.toInt64 v2)]) (rest := []) (st1 := [.int x4]) (c_X12_isPerson G e) B hw hz hc0 (k_X12_isPerson e) (by decide) (ci := 12) rfl rfl my_X12_isPerson mv_X12_isPerson tw_7_35 ⟨Nat.le_of_ble_eq_true rfl, Nat.le_of_ble_eq_true rfl⟩ ⟨Nat.zero_le _, Nat.zero_le _⟩ rfl hl.1 rfl rfl (Nat.le_of_ble_eq_true rfl) dX12_lists_20 (fun H locs hw => ?_)
    refine lv_if_ne (tgt := 29) hx hb dX12_lists_23 (by decide) (fun c5 => ?_) (fun c5 => ?_)
    · have hf := (if_neg c5).symm.trans hf
      refine lv_aload_n hx hb dX12_lists_29 rfl (lv_at hl 0 rfl) ?_
      refine lv_iload_n hx hb dX12_lists_30 rfl (lv_at hl 1 rfl) ?_
      obtain ⟨x6, e, hf⟩ := ob hf
      refine q_callV (As := [.int v1]) (rest := []) (st1 := [.int x6]) (c_X12_noTray G e) B hw hz hc0 (k_X12_noTray e) (by decide) (ci := 12) rfl rfl my_X12_noTray mv_X12_noTray tw_7_176 ⟨Nat.le_of_ble_eq_true rfl, Nat.le_of_ble_eq_true rfl⟩ ⟨Nat.zero_le _, Nat.zero_le _⟩ rfl hl.1 rfl rfl (Nat.le_of_ble_eq_true rfl) dX12_lists_31 (fun H locs hw => ?_)
      refine lv_istore_n (lv' := [(3, .int x6), (0, .ref v0), (1, .int v1), (2, .int v2)]) hx hb dX12_lists_34 rfl hl (by decide) rfl (fun ls hl => ?_)
      refine lv_iload_n hx hb dX12_lists_35 rfl (lv_at hl 0 rfl) ?_
      refine lv_if_eq (tgt := 41) hx hb dX12_lists_36 (by decide) (fun c7 => ?_) (fun c7 => ?_)
      · have hf := (if_pos c7).symm.trans hf
        refine lv_iconst (v := 0) hx hb dX12_lists_41 (by decide) ?_
        refine lv_istore (lv' := [(4, .int 0), (3, .int x6), (0, .ref v0), (1, .int v1), (2, .int v2)]) hx hb dX12_lists_42 hl (by decide) rfl (fun ls hl => ?_)
        exact w_X12_lists_44 G B hz hc0 hr hlk  n h1 v0 v1 v2 0 _ _ _ hw (lv_sub hl [2, 3, 4, 0] rfl) hf
      · have hf := (if_neg c7).symm.trans hf
        refine lv_iload_n hx hb dX12_lists_39 rfl (lv_at hl 0 rfl) ?_
        obtain ⟨rfl, rfl⟩ := so2 hf
        exact q_iret B hw hz hc0 hr hlk dX12_lists_40
    · have hf := (if_pos c5).symm.trans hf
      refine lv_ldc hx hb B.2.2.2.1 (B.w tw_7_39 rfl) dX12_lists_26 ?_
      obtain ⟨rfl, rfl⟩ := so2 hf
      exact q_iret B hw hz hc0 hr hlk dX12_lists_28
/-! SecondLifeModel.image(I)I -/
def f_X12_image_20 (n : Nat) (z : Sh) : Nat → Hp → Nat → Int32 → Int32 → Option (Int32 × Hp)
  | 0, _, _, _, _ => none
  | i + 1, h, v0, v1, v2 =>
    if 1458 ≤ v2 then
      (gR z h 12 v0 2).bind fun a2 =>
      (stZ z h a2 v1 1).bind fun h3 =>
      some ((0 : Int32), h3)
    else
      (gR z h 12 v0 1).bind fun a4 =>
      (gR z h 12 v0 1).bind fun a5 =>
      (ldI z h a5 v2).bind fun x6 =>
      (stI z h a4 ((1458 * (v1 + 1)) + v2) x6).bind fun h7 =>
      (some (v2 + 1)).bind fun x8 =>
      (f_X12_image_20 n z i) h7 v0 v1 x8
def f_X12_image (n : Nat) (z : Sh) (h : Hp) (v0 : Nat) (v1 : Int32) : Option (Int32 × Hp) :=
  if z.K v0 = 12 then
    (pI z h 12 v0 0 0).bind fun h1 =>
    (f_X12_within z h1 (Int32.toInt64 v1) 0 1).bind fun x2 =>
    if x2 = 0 then
      some (((-99000002) : Int32), h1)
    else
      f_X12_image_20 n z n h1 v0 v1 0
  else none
theorem k_X12_image {n : Nat} {z : Sh} {h : Hp} {v0 : Nat} {v1 : Int32} {w : Int32 × Hp} (hf : f_X12_image n z h v0 v1 = some w) : z.K v0 = 12 := by
  unfold f_X12_image at hf
  exact (if_some hf).1
set_option maxHeartbeats 4000000 in
theorem w_X12_image_20 {p : Program} {l : Launch} {e : Env} {s : State} {m : MethodId} {args : Array Value} {below : List Frame} {meth : Method} {c : Code} {s0 : State} {E : Ev} {z : Sh} {n : Nat} {r : Int32} {h' : Hp} (G : Gl s0 E) (B : Bd p s0 s E m c cX12_image 3 RX12) (hz : s0.heap.size ≤ z.sz) (hc0 : s.heap.size + 0 = z.sz) (hr : meth.sig.returnType = (some .int)) (hlk : meth.locks = false) : ∀ (i : Nat), ∀ (h : Hp) (v0 : Nat) (v1 : Int32) (v2 : Int32) (H : Heap) (locs : List Loc) (ls : Array Slot), Pw s0 s E z h H locs → lv_has ls 3 [(0, .ref v0), (1, .int v1), (2, .int v2)] → f_X12_image_20 n z i h v0 v1 v2 = some (r, h') → W p l e (rmO 1 25) s m args below meth c H locs 0 0 (Zt below s0 E z h' (some (.int r)) args s 0 0) (F0 m 20 ls []) := by
  have hx := B.1
  have hb := B.2.1
  intro i
  induction i with
  | zero =>
    intro h v0 v1 v2 H locs ls hw hl hf
    have hf := (f_X12_image_20.eq_1 ..).symm.trans hf
    cases hf
  | succ i ih =>
    intro h v0 v1 v2 H locs ls hw hl hf
    have hf := (f_X12_image_20.eq_2 ..).symm.trans hf
    refine lv_iload_n hx hb dX12_image_20 rfl (lv_at hl 2 rfl) ?_
    refine lv_sipush (v := 1458) hx hb dX12_image_21 (by decide) ?_
    refine lv_icmp_ge (tgt := 53) hx hb dX12_image_24 (by decide) (fun c1 => ?_) (fun c1 => ?_)
    · have hf := (if_pos c1).symm.trans hf
      refine lv_aload_n hx hb dX12_image_53 rfl (lv_at hl 0 rfl) ?_
      obtain ⟨a2, e, hf⟩ := ob hf
      refine q_getR e B hw fd_12_2.1 fd_12_2.2.1 fd_12_2.2.2.1 fd_12_2.2.2.2.1 fd_12_2.2.2.2.2 rfl tw_6_45 dX12_image_54 ?_
      refine lv_iload_n hx hb dX12_image_57 rfl (lv_at hl 1 rfl) ?_
      refine lv_iconst (v := 1) hx hb dX12_image_58 (by decide) ?_
      obtain ⟨h3, e, hf⟩ := ob hf
      refine q_stZ e B hw dX12_image_59 (fun H locs hw => ?_)
      refine lv_iconst (v := 0) hx hb dX12_image_60 (by decide) ?_
      obtain ⟨rfl, rfl⟩ := so2 hf
      exact q_iret B hw hz hc0 hr hlk dX12_image_61
    · have hf := (if_neg c1).symm.trans hf
      refine lv_aload_n hx hb dX12_image_27 rfl (lv_at hl 0 rfl) ?_
      obtain ⟨a4, e, hf⟩ := ob hf
      refine q_getR e B hw fd_12_1.1 fd_12_1.2.1 fd_12_1.2.2.1 fd_12_1.2.2.2.1 fd_12_1.2.2.2.2 rfl tw_6_44 dX12_image_28 ?_
      refine lv_sipush (v := 1458) hx hb dX12_image_31 (by decide) ?_
      refine lv_iload_n hx hb dX12_image_34 rfl (lv_at hl 1 rfl) ?_
      refine lv_iconst (v := 1) hx hb dX12_image_35 (by decide) ?_
      refine lv_iadd hx hb dX12_image_36 ?_
      refine lv_imul hx hb dX12_image_37 ?_
      refine lv_iload_n hx hb dX12_image_38 rfl (lv_at hl 2 rfl) ?_
      refine lv_iadd hx hb dX12_image_39 ?_
      refine lv_aload_n hx hb dX12_image_40 rfl (lv_at hl 0 rfl) ?_
      obtain ⟨a5, e, hf⟩ := ob hf
      refine q_getR e B hw fd_12_1.1 fd_12_1.2.1 fd_12_1.2.2.1 fd_12_1.2.2.2.1 fd_12_1.2.2.2.2 rfl tw_6_44 dX12_image_41 ?_
      refine lv_iload_n hx hb dX12_image_44 rfl (lv_at hl 2 rfl) ?_
      obtain ⟨x6, e, hf⟩ := ob hf
      refine q_ldI e B hw dX12_image_45 ?_
      obtain ⟨h7, e, hf⟩ := ob hf
      refine q_stI e B hw dX12_image_46 (fun H locs hw => ?_)
      obtain ⟨x8, e, hf⟩ := ob hf
      refine lv_iinc (v := x8) (lv' := [(2, .int x8), (0, .ref v0), (1, .int v1)]) hx hb dX12_image_47 hl (k := 2) rfl (Option.some.inj e) (by decide) rfl (fun ls hl => ?_)
      refine lv_goto (tgt := 20) hx hb dX12_image_50 (by decide) ?_
      exact ih h7 v0 v1 x8 _ _ _ hw (lv_sub hl [1, 2, 0] rfl) hf
set_option maxHeartbeats 4000000 in
theorem c_X12_image {l : Launch} {s0 : State} {E : Ev} (G : Gl s0 E) {n : Nat} {z : Sh} {h : Hp} {v0 : Nat} {v1 : Int32} {r : Int32} {h' : Hp} (hf : f_X12_image n z h v0 v1 = some (r, h')) : Ct l s0 E yX12_image cX12_image 3 (some .int) 1 25 [.ref v0, .int v1] z h h' (some (.int r)) := by
  refine Ct.of G (by decide) (Nat.le_of_ble_eq_true rfl) ?_
  intro p e s m below meth c ls B hw hz hc0 hr hlk hl
  have B : Bd p s0 s E m c cX12_image 3 RX12 := B
  have hx := B.1
  have hb := B.2.1
  have hl : lv_has ls 3 [(0, .ref v0), (1, .int v1)] := hl
  unfold f_X12_image at hf
  obtain ⟨_, hf⟩ := if_some hf
  refine lv_aload_n hx hb dX12_image_0 rfl (lv_at hl 0 rfl) ?_
  refine lv_iconst (v := 0) hx hb dX12_image_1 (by decide) ?_
  obtain ⟨h1, e, hf⟩ := ob hf
  refine q_putI e B hw fd_12_0.1 fd_12_0.2.1 fd_12_0.2.2.1 fd_12_0.2.2.2.1 fd_12_0.2.2.2.2 rfl rfl (tyX12_ok 0 (by decide)) tyX12 tyX12_ok nmX12 tw_6_43 dX12_image_2 (fun H locs hw => ?_)
  refine lv_iload_n hx hb dX12_image_5 rfl (lv_at hl 1 rfl) ?_
  refine lv_i2l (v := (Int32.toInt64 v1)) hx hb dX12_image_6 rfl ?_
  refine lv_lconst (v := 0) hx hb dX12_image_7 (by decide) ?_
  refine lv_lconst (v := 1) hx hb dX12_image_8 (by decide) ?_
  obtain ⟨x2, e, hf⟩ := ob hf
  refine q_callS (As := [.long (Int32.toInt64 v1), .long 0, .long 1]) (rest := []) (st1 := [.int x2]) (c_X12_within G e) B hw hz hc0 my_X12_within mv_X12_within tw_6_162 ⟨Nat.le_of_ble_eq_true rfl, Nat.le_of_ble_eq_true rfl⟩ ⟨Nat.zero_le _, Nat.zero_le _⟩ rfl hl.1 rfl rfl (Nat.le_of_ble_eq_true rfl) dX12_image_9 (fun H locs hw => ?_)
  refine lv_if_ne (tgt := 18) hx hb dX12_image_12 (by decide) (fun c3 => ?_) (fun c3 => ?_)
  · have hf := (if_neg c3).symm.trans hf
    refine lv_iconst (v := 0) hx hb dX12_image_18 (by decide) ?_
    refine lv_istore_n (lv' := [(2, .int 0), (0, .ref v0), (1, .int v1)]) hx hb dX12_image_19 rfl hl (by decide) rfl (fun ls hl => ?_)
    exact w_X12_image_20 G B hz hc0 hr hlk  n h1 v0 v1 0 _ _ _ hw (lv_sub hl [1, 2, 0] rfl) hf
  · have hf := (if_pos c3).symm.trans hf
    refine lv_ldc hx hb B.2.2.2.1 (B.w tw_7_39 rfl) dX12_image_15 ?_
    obtain ⟨rfl, rfl⟩ := so2 hf
    exact q_iret B hw hz hc0 hr hlk dX12_image_17
/-! SecondLifeModel.restore(I)I -/
def f_X12_restore_32 (n : Nat) (z : Sh) : Nat → Hp → Nat → Int32 → Int32 → Option (Int32 × Hp)
  | 0, _, _, _, _ => none
  | i + 1, h, v0, v1, v2 =>
    if 1458 ≤ v2 then
      (gR z h 12 v0 1).bind fun a2 =>
      (stI z h a2 66 0).bind fun h3 =>
      some ((0 : Int32), h3)
    else
      (gR z h 12 v0 1).bind fun a4 =>
      (gR z h 12 v0 1).bind fun a5 =>
      (ldI z h a5 ((1458 * (v1 + 1)) + v2)).bind fun x6 =>
      (stI z h a4 v2 x6).bind fun h7 =>
      (some (v2 + 1)).bind fun x8 =>
      (f_X12_restore_32 n z i) h7 v0 v1 x8
def f_X12_restore (n : Nat) (z : Sh) (h : Hp) (v0 : Nat) (v1 : Int32) : Option (Int32 × Hp) :=
  if z.K v0 = 12 then
    (pI z h 12 v0 0 0).bind fun h1 =>
    (f_X12_within z h1 (Int32.toInt64 v1) 0 1).bind fun x2 =>
    if x2 = 0 then
      some (((-99000002) : Int32), h1)
    else
      (gR z h1 12 v0 2).bind fun a4 =>
      (ldZ z h1 a4 v1).bind fun x5 =>
      if x5 = 0 then
        some (((-99000005) : Int32), h1)
      else
        f_X12_restore_32 n z n h1 v0 v1 0
  else none
theorem k_X12_restore {n : Nat} {z : Sh} {h : Hp} {v0 : Nat} {v1 : Int32} {w : Int32 × Hp} (hf : f_X12_restore n z h v0 v1 = some w) : z.K v0 = 12 := by
  unfold f_X12_restore at hf
  exact (if_some hf).1
set_option maxHeartbeats 4000000 in
theorem w_X12_restore_32 {p : Program} {l : Launch} {e : Env} {s : State} {m : MethodId} {args : Array Value} {below : List Frame} {meth : Method} {c : Code} {s0 : State} {E : Ev} {z : Sh} {n : Nat} {r : Int32} {h' : Hp} (G : Gl s0 E) (B : Bd p s0 s E m c cX12_restore 3 RX12) (hz : s0.heap.size ≤ z.sz) (hc0 : s.heap.size + 0 = z.sz) (hr : meth.sig.returnType = (some .int)) (hlk : meth.locks = false) : ∀ (i : Nat), ∀ (h : Hp) (v0 : Nat) (v1 : Int32) (v2 : Int32) (H : Heap) (locs : List Loc) (ls : Array Slot), Pw s0 s E z h H locs → lv_has ls 3 [(0, .ref v0), (1, .int v1), (2, .int v2)] → f_X12_restore_32 n z i h v0 v1 v2 = some (r, h') → W p l e (rmO 1 25) s m args below meth c H locs 0 0 (Zt below s0 E z h' (some (.int r)) args s 0 0) (F0 m 32 ls []) := by
  have hx := B.1
  have hb := B.2.1
  intro i
  induction i with
  | zero =>
    intro h v0 v1 v2 H locs ls hw hl hf
    have hf := (f_X12_restore_32.eq_1 ..).symm.trans hf
    cases hf
  | succ i ih =>
    intro h v0 v1 v2 H locs ls hw hl hf
    have hf := (f_X12_restore_32.eq_2 ..).symm.trans hf
    refine lv_iload_n hx hb dX12_restore_32 rfl (lv_at hl 2 rfl) ?_
    refine lv_sipush (v := 1458) hx hb dX12_restore_33 (by decide) ?_
    refine lv_icmp_ge (tgt := 65) hx hb dX12_restore_36 (by decide) (fun c1 => ?_) (fun c1 => ?_)
    · have hf := (if_pos c1).symm.trans hf
      refine lv_aload_n hx hb dX12_restore_65 rfl (lv_at hl 0 rfl) ?_
      obtain ⟨a2, e, hf⟩ := ob hf
      refine q_getR e B hw fd_12_1.1 fd_12_1.2.1 fd_12_1.2.2.1 fd_12_1.2.2.2.1 fd_12_1.2.2.2.2 rfl tw_6_44 dX12_restore_66 ?_
      refine lv_bipush (v := 66) hx hb dX12_restore_69 (by decide) ?_
      refine lv_iconst (v := 0) hx hb dX12_restore_71 (by decide) ?_
      obtain ⟨h3, e, hf⟩ := ob hf
      refine q_stI e B hw dX12_restore_72 (fun H locs hw => ?_)
      refine lv_iconst (v := 0) hx hb dX12_restore_73 (by decide) ?_
      obtain ⟨rfl, rfl⟩ := so2 hf
      exact q_iret B hw hz hc0 hr hlk dX12_restore_74
    · have hf := (if_neg c1).symm.trans hf
      refine lv_aload_n hx hb dX12_restore_39 rfl (lv_at hl 0 rfl) ?_
      obtain ⟨a4, e, hf⟩ := ob hf
      refine q_getR e B hw fd_12_1.1 fd_12_1.2.1 fd_12_1.2.2.1 fd_12_1.2.2.2.1 fd_12_1.2.2.2.2 rfl tw_6_44 dX12_restore_40 ?_
      refine lv_iload_n hx hb dX12_restore_43 rfl (lv_at hl 2 rfl) ?_
      refine lv_aload_n hx hb dX12_restore_44 rfl (lv_at hl 0 rfl) ?_
      obtain ⟨a5, e, hf⟩ := ob hf
      refine q_getR e B hw fd_12_1.1 fd_12_1.2.1 fd_12_1.2.2.1 fd_12_1.2.2.2.1 fd_12_1.2.2.2.2 rfl tw_6_44 dX12_restore_45 ?_
      refine lv_sipush (v := 1458) hx hb dX12_restore_48 (by decide) ?_
      refine lv_iload_n hx hb dX12_restore_51 rfl (lv_at hl 1 rfl) ?_
      refine lv_iconst (v := 1) hx hb dX12_restore_52 (by decide) ?_
      refine lv_iadd hx hb dX12_restore_53 ?_
      refine lv_imul hx hb dX12_restore_54 ?_
      refine lv_iload_n hx hb dX12_restore_55 rfl (lv_at hl 2 rfl) ?_
      refine lv_iadd hx hb dX12_restore_56 ?_
      obtain ⟨x6, e, hf⟩ := ob hf
      refine q_ldI e B hw dX12_restore_57 ?_
      obtain ⟨h7, e, hf⟩ := ob hf
      refine q_stI e B hw dX12_restore_58 (fun H locs hw => ?_)
      obtain ⟨x8, e, hf⟩ := ob hf
      refine lv_iinc (v := x8) (lv' := [(2, .int x8), (0, .ref v0), (1, .int v1)]) hx hb dX12_restore_59 hl (k := 2) rfl (Option.some.inj e) (by decide) rfl (fun ls hl => ?_)
      refine lv_goto (tgt := 32) hx hb dX12_restore_62 (by decide) ?_
      exact ih h7 v0 v1 x8 _ _ _ hw (lv_sub hl [1, 2, 0] rfl) hf
set_option maxHeartbeats 4000000 in
theorem c_X12_restore {l : Launch} {s0 : State} {E : Ev} (G : Gl s0 E) {n : Nat} {z : Sh} {h : Hp} {v0 : Nat} {v1 : Int32} {r : Int32} {h' : Hp} (hf : f_X12_restore n z h v0 v1 = some (r, h')) : Ct l s0 E yX12_restore cX12_restore 3 (some .int) 1 25 [.ref v0, .int v1] z h h' (some (.int r)) := by
  refine Ct.of G (by decide) (Nat.le_of_ble_eq_true rfl) ?_
  intro p e s m below meth c ls B hw hz hc0 hr hlk hl
  have B : Bd p s0 s E m c cX12_restore 3 RX12 := B
  have hx := B.1
  have hb := B.2.1
  have hl : lv_has ls 3 [(0, .ref v0), (1, .int v1)] := hl
  unfold f_X12_restore at hf
  obtain ⟨_, hf⟩ := if_some hf
  refine lv_aload_n hx hb dX12_restore_0 rfl (lv_at hl 0 rfl) ?_
  refine lv_iconst (v := 0) hx hb dX12_restore_1 (by decide) ?_
  obtain ⟨h1, e, hf⟩ := ob hf
  refine q_putI e B hw fd_12_0.1 fd_12_0.2.1 fd_12_0.2.2.1 fd_12_0.2.2.2.1 fd_12_0.2.2.2.2 rfl rfl (tyX12_ok 0 (by decide)) tyX12 tyX12_ok nmX12 tw_6_43 dX12_restore_2 (fun H locs hw => ?_)
  refine lv_iload_n hx hb dX12_restore_5 rfl (lv_at hl 1 rfl) ?_
  refine lv_i2l (v := (Int32.toInt64 v1)) hx hb dX12_restore_6 rfl ?_
  refine lv_lconst (v := 0) hx hb dX12_restore_7 (by decide) ?_
  refine lv_lconst (v := 1) hx hb dX12_restore_8 (by decide) ?_
  obtain ⟨x2, e, hf⟩ := ob hf
  refine q_callS (As := [.long (Int32.toInt64 v1), .long 0, .long 1]) (rest := []) (st1 := [.int x2]) (c_X12_within G e) B hw hz hc0 my_X12_within mv_X12_within tw_6_162 ⟨Nat.le_of_ble_eq_true rfl, Nat.le_of_ble_eq_true rfl⟩ ⟨Nat.zero_le _, Nat.zero_le _⟩ rfl hl.1 rfl rfl (Nat.le_of_ble_eq_true rfl) dX12_restore_9 (fun H locs hw => ?_)
  refine lv_if_ne (tgt := 18) hx hb dX12_restore_12 (by decide) (fun c3 => ?_) (fun c3 => ?_)
  · have hf := (if_neg c3).symm.trans hf
    refine lv_aload_n hx hb dX12_restore_18 rfl (lv_at hl 0 rfl) ?_
    obtain ⟨a4, e, hf⟩ := ob hf
    refine q_getR e B hw fd_12_2.1 fd_12_2.2.1 fd_12_2.2.2.1 fd_12_2.2.2.2.1 fd_12_2.2.2.2.2 rfl tw_6_45 dX12_restore_19 ?_
    refine lv_iload_n hx hb dX12_restore_22 rfl (lv_at hl 1 rfl) ?_
    obtain ⟨x5, e, hf⟩ := ob hf
    refine q_ldZ e B hw dX12_restore_23 ?_
    refine lv_if_ne (tgt := 30) hx hb dX12_restore_24 (by decide) (fun c6 => ?_) (fun c6 => ?_)
    · have hf := (if_neg c6).symm.trans hf
      refine lv_iconst (v := 0) hx hb dX12_restore_30 (by decide) ?_
      refine lv_istore_n (lv' := [(2, .int 0), (0, .ref v0), (1, .int v1)]) hx hb dX12_restore_31 rfl hl (by decide) rfl (fun ls hl => ?_)
      exact w_X12_restore_32 G B hz hc0 hr hlk  n h1 v0 v1 0 _ _ _ hw (lv_sub hl [1, 2, 0] rfl) hf
    · have hf := (if_pos c6).symm.trans hf
      refine lv_ldc hx hb B.2.2.2.1 (B.w tw_6_157 rfl) dX12_restore_27 ?_
      obtain ⟨rfl, rfl⟩ := so2 hf
      exact q_iret B hw hz hc0 hr hlk dX12_restore_29
  · have hf := (if_pos c3).symm.trans hf
    refine lv_ldc hx hb B.2.2.2.1 (B.w tw_7_39 rfl) dX12_restore_15 ?_
    obtain ⟨rfl, rfl⟩ := so2 hf
    exact q_iret B hw hz hc0 hr hlk dX12_restore_17
/-! SecondLifeModel.pledgedSet()I -/
def f_X12_pledgedSet_34 (n : Nat) (z : Sh) (h : Hp) (k4 : Nat → Int32 → Int32 → Option (Int32)) (v0 : Nat) (v2 : Int32) (u0 : Int32) (u1 : Int32) : Option (Int32) :=
  (some (u1 ||| u0)).bind fun x1 =>
  (some (v2 + 1)).bind fun x2 =>
  k4 v0 x1 x2
def f_X12_pledgedSet_4 (n : Nat) (z : Sh) (h : Hp) : Nat → Nat → Int32 → Int32 → Option (Int32)
  | 0, _, _, _ => none
  | i + 1, v0, v1, v2 =>
    (gR z h 12 v0 1).bind fun a1 =>
    (ldI z h a1 3).bind fun x2 =>
    if x2 ≤ v2 then
      some v1
    else
      (gR z h 12 v0 1).bind fun a4 =>
      (ldI z h a4 (60 + v2)).bind fun x5 =>
      if x5 ≤ 0 then
        f_X12_pledgedSet_34 n z h (f_X12_pledgedSet_4 n z h i) v0 v2 0 v1
      else
        f_X12_pledgedSet_34 n z h (f_X12_pledgedSet_4 n z h i) v0 v2 ((1 : Int32) <<< (v2 &&& 31)) v1
def f_X12_pledgedSet (n : Nat) (z : Sh) (h : Hp) (v0 : Nat) : Option (Int32) :=
  if z.K v0 = 12 then
    f_X12_pledgedSet_4 n z h n v0 0 0
  else none
theorem k_X12_pledgedSet {n : Nat} {z : Sh} {h : Hp} {v0 : Nat} {w : Int32} (hf : f_X12_pledgedSet n z h v0 = some w) : z.K v0 = 12 := by
  unfold f_X12_pledgedSet at hf
  exact (if_some hf).1
set_option maxHeartbeats 4000000 in
theorem w_X12_pledgedSet_34 {p : Program} {l : Launch} {e : Env} {s : State} {m : MethodId} {args : Array Value} {below : List Frame} {meth : Method} {c : Code} {s0 : State} {E : Ev} {z : Sh} {h : Hp} {n : Nat} {k4 : Nat → Int32 → Int32 → Option (Int32)} {r : Int32} (G : Gl s0 E) (B : Bd p s0 s E m c cX12_pledgedSet 3 RX12) (hz : s0.heap.size ≤ z.sz) (hc0 : s.heap.size + 0 = z.sz) (hr : meth.sig.returnType = (some .int)) (hlk : meth.locks = false) (hk4 : ∀ (v0 : Nat) (v1 : Int32) (v2 : Int32) (H : Heap) (locs : List Loc) (ls : Array Slot), Pw s0 s E z h H locs → lv_has ls 3 [(0, .ref v0), (1, .int v1), (2, .int v2)] → k4 v0 v1 v2 = some r → W p l e (rmO 0 0) s m args below meth c H locs 0 0 (Zt below s0 E z h (some (.int r)) args s 0 0) (F0 m 4 ls [])) : ∀ (v0 : Nat) (v2 : Int32) (u0 : Int32) (u1 : Int32) (H : Heap) (locs : List Loc) (ls : Array Slot), Pw s0 s E z h H locs → lv_has ls 3 [(0, .ref v0), (2, .int v2)] → f_X12_pledgedSet_34 n z h k4 v0 v2 u0 u1 = some r → W p l e (rmO 0 0) s m args below meth c H locs 0 0 (Zt below s0 E z h (some (.int r)) args s 0 0) (F0 m 34 ls [.int u0, .int u1]) := by
  have hx := B.1
  have hb := B.2.1
  intro v0 v2 u0 u1 H locs ls hw hl hf
  unfold f_X12_pledgedSet_34 at hf
  refine lv_ior hx hb dX12_pledgedSet_34 ?_
  obtain ⟨x1, e, hf⟩ := ob hf
  refine q_nmI e ?_
  refine lv_istore_n (lv' := [(1, .int x1), (0, .ref v0), (2, .int v2)]) hx hb dX12_pledgedSet_35 rfl hl (by decide) rfl (fun ls hl => ?_)
  obtain ⟨x2, e, hf⟩ := ob hf
  refine lv_iinc (v := x2) (lv' := [(2, .int x2), (1, .int x1), (0, .ref v0)]) hx hb dX12_pledgedSet_36 hl (k := 2) rfl (Option.some.inj e) (by decide) rfl (fun ls hl => ?_)
  refine lv_goto (tgt := 4) hx hb dX12_pledgedSet_39 (by decide) ?_
  exact hk4 v0 x1 x2 _ _ _ hw (lv_sub hl [2, 1, 0] rfl) hf
set_option maxHeartbeats 4000000 in
theorem w_X12_pledgedSet_4 {p : Program} {l : Launch} {e : Env} {s : State} {m : MethodId} {args : Array Value} {below : List Frame} {meth : Method} {c : Code} {s0 : State} {E : Ev} {z : Sh} {h : Hp} {n : Nat} {r : Int32} (G : Gl s0 E) (B : Bd p s0 s E m c cX12_pledgedSet 3 RX12) (hz : s0.heap.size ≤ z.sz) (hc0 : s.heap.size + 0 = z.sz) (hr : meth.sig.returnType = (some .int)) (hlk : meth.locks = false) : ∀ (i : Nat), ∀ (v0 : Nat) (v1 : Int32) (v2 : Int32) (H : Heap) (locs : List Loc) (ls : Array Slot), Pw s0 s E z h H locs → lv_has ls 3 [(0, .ref v0), (1, .int v1), (2, .int v2)] → f_X12_pledgedSet_4 n z h i v0 v1 v2 = some r → W p l e (rmO 0 0) s m args below meth c H locs 0 0 (Zt below s0 E z h (some (.int r)) args s 0 0) (F0 m 4 ls []) := by
  have hx := B.1
  have hb := B.2.1
  intro i
  induction i with
  | zero =>
    intro v0 v1 v2 H locs ls hw hl hf
    have hf := (f_X12_pledgedSet_4.eq_1 ..).symm.trans hf
    cases hf
  | succ i ih =>
    intro v0 v1 v2 H locs ls hw hl hf
    have hf := (f_X12_pledgedSet_4.eq_2 ..).symm.trans hf
    refine lv_iload_n hx hb dX12_pledgedSet_4 rfl (lv_at hl 2 rfl) ?_
    refine lv_aload_n hx hb dX12_pledgedSet_5 rfl (lv_at hl 0 rfl) ?_
    obtain ⟨a1, e, hf⟩ := ob hf
    refine q_getR e B hw fd_12_1.1 fd_12_1.2.1 fd_12_1.2.2.1 fd_12_1.2.2.2.1 fd_12_1.2.2.2.2 rfl tw_6_44 dX12_pledgedSet_6 ?_
    refine lv_iconst (v := 3) hx hb dX12_pledgedSet_9 (by decide) ?_
    obtain ⟨x2, e, hf⟩ := ob hf
    refine q_ldI e B hw dX12_pledgedSet_10 ?_
    refine lv_icmp_ge (tgt := 42) hx hb dX12_pledgedSet_11 (by decide) (fun c3 => ?_) (fun c3 => ?_)
    · have hf := (if_pos c3).symm.trans hf
      refine lv_iload_n hx hb dX12_pledgedSet_42 rfl (lv_at hl 1 rfl) ?_
      obtain rfl := so hf
      exact q_iret B hw hz hc0 hr hlk dX12_pledgedSet_43
    · have hf := (if_neg c3).symm.trans hf
      refine lv_iload_n hx hb dX12_pledgedSet_14 rfl (lv_at hl 1 rfl) ?_
      refine lv_aload_n hx hb dX12_pledgedSet_15 rfl (lv_at hl 0 rfl) ?_
      obtain ⟨a4, e, hf⟩ := ob hf
      refine q_getR e B hw fd_12_1.1 fd_12_1.2.1 fd_12_1.2.2.1 fd_12_1.2.2.2.1 fd_12_1.2.2.2.2 rfl tw_6_44 dX12_pledgedSet_16 ?_
      refine lv_bipush (v := 60) hx hb dX12_pledgedSet_19 (by decide) ?_
      refine lv_iload_n hx hb dX12_pledgedSet_21 rfl (lv_at hl 2 rfl) ?_
      refine lv_iadd hx hb dX12_pledgedSet_22 ?_
      obtain ⟨x5, e, hf⟩ := ob hf
      refine q_ldI e B hw dX12_pledgedSet_23 ?_
      refine lv_if_le (tgt := 33) hx hb dX12_pledgedSet_24 (by decide) (fun c6 => ?_) (fun c6 => ?_)
      · have hf := (if_pos c6).symm.trans hf
        refine lv_iconst (v := 0) hx hb dX12_pledgedSet_33 (by decide) ?_
        exact w_X12_pledgedSet_34 G B hz hc0 hr hlk ih v0 v2 0 v1 _ _ _ hw (lv_sub hl [0, 2] rfl) hf
      · have hf := (if_neg c6).symm.trans hf
        refine lv_iconst (v := 1) hx hb dX12_pledgedSet_27 (by decide) ?_
        refine lv_iload_n hx hb dX12_pledgedSet_28 rfl (lv_at hl 2 rfl) ?_
        refine lv_ishl hx hb dX12_pledgedSet_29 ?_
        refine lv_goto (tgt := 34) hx hb dX12_pledgedSet_30 (by decide) ?_
        exact w_X12_pledgedSet_34 G B hz hc0 hr hlk ih v0 v2 ((1 : Int32) <<< (v2 &&& 31)) v1 _ _ _ hw (lv_sub hl [0, 2] rfl) hf
set_option maxHeartbeats 4000000 in
theorem c_X12_pledgedSet {l : Launch} {s0 : State} {E : Ev} (G : Gl s0 E) {n : Nat} {z : Sh} {h : Hp} {v0 : Nat} {r : Int32} (hf : f_X12_pledgedSet n z h v0 = some r) : Ct l s0 E yX12_pledgedSet cX12_pledgedSet 3 (some .int) 0 0 [.ref v0] z h h (some (.int r)) := by
  refine Ct.of G (by decide) (Nat.le_of_ble_eq_true rfl) ?_
  intro p e s m below meth c ls B hw hz hc0 hr hlk hl
  have B : Bd p s0 s E m c cX12_pledgedSet 3 RX12 := B
  have hx := B.1
  have hb := B.2.1
  have hl : lv_has ls 3 [(0, .ref v0)] := hl
  unfold f_X12_pledgedSet at hf
  obtain ⟨_, hf⟩ := if_some hf
  refine lv_iconst (v := 0) hx hb dX12_pledgedSet_0 (by decide) ?_
  refine lv_istore_n (lv' := [(1, .int 0), (0, .ref v0)]) hx hb dX12_pledgedSet_1 rfl hl (by decide) rfl (fun ls hl => ?_)
  refine lv_iconst (v := 0) hx hb dX12_pledgedSet_2 (by decide) ?_
  refine lv_istore_n (lv' := [(2, .int 0), (1, .int 0), (0, .ref v0)]) hx hb dX12_pledgedSet_3 rfl hl (by decide) rfl (fun ls hl => ?_)
  exact w_X12_pledgedSet_4 G B hz hc0 hr hlk  n v0 0 0 _ _ _ hw (lv_sub hl [2, 1, 0] rfl) hf
