/-! SecondLifeModel.write(IIJ)J -/
def f_X12_write (z : Sh) (h : Hp) (v0 : Nat) (v1 : Int32) (v2 : Int32) (v3 : Int64) : Option (Int64 × Hp) :=
  if z.K v0 = 12 then
    (pI z h 12 v0 0 0).bind fun h1 =>
    (f_X12_noTray z h1 v0 v1).bind fun x2 =>
    if x2 = 0 then
      (gR z h1 12 v0 34).bind fun a4 =>
      (ldI z h1 a4 v1).bind fun x5 =>
      (f_X12_within z h1 (Int32.toInt64 v2) 0 (Int32.toInt64 (x5 - 1))).bind fun x6 =>
      if x6 = 0 then
        some (((-99000007) : Int64), h1)
      else
        (gR z h1 12 v0 35).bind fun a8 =>
        (gR z h1 12 v0 33).bind fun a9 =>
        (ldI z h1 a9 v1).bind fun x10 =>
        (f_X12_cut z h1 v3 x10).bind fun x11 =>
        (stJ z h1 a8 ((40 * v1) + v2) x11).bind fun h12 =>
        (gR z h12 12 v0 35).bind fun a13 =>
        (ldJ z h12 a13 ((40 * v1) + v2)).bind fun x14 =>
        some (x14, h12)
    else
      some ((Int32.toInt64 x2), h1)
  else none
theorem k_X12_write {z : Sh} {h : Hp} {v0 : Nat} {v1 : Int32} {v2 : Int32} {v3 : Int64} {w : Int64 × Hp} (hf : f_X12_write z h v0 v1 v2 v3 = some w) : z.K v0 = 12 := by
  unfold f_X12_write at hf
  exact (if_some hf).1
set_option maxHeartbeats 4000000 in
theorem c_X12_write {l : Launch} {s0 : State} {E : Ev} (G : Gl s0 E) {z : Sh} {h : Hp} {v0 : Nat} {v1 : Int32} {v2 : Int32} {v3 : Int64} {r : Int64} {h' : Hp} (hf : f_X12_write z h v0 v1 v2 v3 = some (r, h')) : Ct l s0 E yX12_write cX12_write 6 (some .long) 2 46 [.ref v0, .int v1, .int v2, .long v3] z h h' (some (.long r)) := by
  refine Ct.of G (by decide) (Nat.le_of_ble_eq_true rfl) ?_
  intro p e s m below meth c ls B hw hz hc0 hr hlk hl
  have B : Bd p s0 s E m c cX12_write 6 RX12 := B
  have hx := B.1
  have hb := B.2.1
  have hl : lv_has ls 6 [(0, .ref v0), (1, .int v1), (2, .int v2), (3, .long v3)] := hl
  unfold f_X12_write at hf
  obtain ⟨_, hf⟩ := if_some hf
  refine lv_aload_n hx hb dX12_write_0 rfl (lv_at hl 0 rfl) ?_
  refine lv_iconst (v := 0) hx hb dX12_write_1 (by decide) ?_
  obtain ⟨h1, e, hf⟩ := ob hf
  refine q_putI e B hw fd_12_0.1 fd_12_0.2.1 fd_12_0.2.2.1 fd_12_0.2.2.2.1 fd_12_0.2.2.2.2 rfl rfl (tyX12_ok 0 (by decide)) tyX12 tyX12_ok nmX12 tw_6_47 dX12_write_2 (fun H locs hw => ?_)
  refine lv_aload_n hx hb dX12_write_5 rfl (lv_at hl 0 rfl) ?_
  refine lv_iload_n hx hb dX12_write_6 rfl (lv_at hl 1 rfl) ?_
  obtain ⟨x2, e, hf⟩ := ob hf
  refine q_callV (As := [.int v1]) (rest := []) (st1 := [.int x2]) (c_X12_noTray G e) B hw hz hc0 (k_X12_noTray e) (by decide) (ci := 12) rfl rfl my_X12_noTray mv_X12_noTray tw_7_180 ⟨Nat.le_of_ble_eq_true rfl, Nat.le_of_ble_eq_true rfl⟩ ⟨Nat.zero_le _, Nat.zero_le _⟩ rfl hl.1 rfl rfl (Nat.le_of_ble_eq_true rfl) dX12_write_7 (fun H locs hw => ?_)
  refine lv_istore (lv' := [(5, .int x2), (0, .ref v0), (1, .int v1), (2, .int v2), (3, .long v3)]) hx hb dX12_write_10 hl (by decide) rfl (fun ls hl => ?_)
  refine lv_iload hx hb dX12_write_12 (lv_at hl 0 rfl) ?_
  refine lv_if_eq (tgt := 21) hx hb dX12_write_14 (by decide) (fun c3 => ?_) (fun c3 => ?_)
  · have hf := (if_pos c3).symm.trans hf
    refine lv_iload_n hx hb dX12_write_21 rfl (lv_at hl 3 rfl) ?_
    refine lv_i2l (v := (Int32.toInt64 v2)) hx hb dX12_write_22 rfl ?_
    refine lv_lconst (v := 0) hx hb dX12_write_23 (by decide) ?_
    refine lv_aload_n hx hb dX12_write_24 rfl (lv_at hl 1 rfl) ?_
    obtain ⟨a4, e, hf⟩ := ob hf
    refine q_getR e B hw fd_12_34.1 fd_12_34.2.1 fd_12_34.2.2.1 fd_12_34.2.2.2.1 fd_12_34.2.2.2.2 rfl tw_6_81 dX12_write_25 ?_
    refine lv_iload_n hx hb dX12_write_28 rfl (lv_at hl 2 rfl) ?_
    obtain ⟨x5, e, hf⟩ := ob hf
    refine q_ldI e B hw dX12_write_29 ?_
    refine lv_iconst (v := 1) hx hb dX12_write_30 (by decide) ?_
    refine lv_isub hx hb dX12_write_31 ?_
    refine lv_i2l (v := (Int32.toInt64 (x5 - 1))) hx hb dX12_write_32 rfl ?_
    obtain ⟨x6, e, hf⟩ := ob hf
    refine q_callS (As := [.long (Int32.toInt64 v2), .long 0, .long (Int32.toInt64 (x5 - 1))]) (rest := []) (st1 := [.int x6]) (c_X12_within G e) B hw hz hc0 my_X12_within mv_X12_within tw_6_166 ⟨Nat.le_of_ble_eq_true rfl, Nat.le_of_ble_eq_true rfl⟩ ⟨Nat.zero_le _, Nat.zero_le _⟩ rfl hl.1 rfl rfl (Nat.le_of_ble_eq_true rfl) dX12_write_33 (fun H locs hw => ?_)
    refine lv_if_ne (tgt := 43) hx hb dX12_write_36 (by decide) (fun c7 => ?_) (fun c7 => ?_)
    · have hf := (if_neg c7).symm.trans hf
      refine lv_aload_n hx hb dX12_write_43 rfl (lv_at hl 1 rfl) ?_
      obtain ⟨a8, e, hf⟩ := ob hf
      refine q_getR e B hw fd_12_35.1 fd_12_35.2.1 fd_12_35.2.2.1 fd_12_35.2.2.2.1 fd_12_35.2.2.2.2 rfl tw_6_82 dX12_write_44 ?_
      refine lv_bipush (v := 40) hx hb dX12_write_47 (by decide) ?_
      refine lv_iload_n hx hb dX12_write_49 rfl (lv_at hl 2 rfl) ?_
      refine lv_imul hx hb dX12_write_50 ?_
      refine lv_iload_n hx hb dX12_write_51 rfl (lv_at hl 3 rfl) ?_
      refine lv_iadd hx hb dX12_write_52 ?_
      refine lv_lload_n hx hb dX12_write_53 rfl (lv_at hl 4 rfl) ?_
      refine lv_aload_n hx hb dX12_write_54 rfl (lv_at hl 1 rfl) ?_
      obtain ⟨a9, e, hf⟩ := ob hf
      refine q_getR e B hw fd_12_33.1 fd_12_33.2.1 fd_12_33.2.2.1 fd_12_33.2.2.2.1 fd_12_33.2.2.2.2 rfl tw_6_80 dX12_write_55 ?_
      refine lv_iload_n hx hb dX12_write_58 rfl (lv_at hl 2 rfl) ?_
      obtain ⟨x10, e, hf⟩ := ob hf
      refine q_ldI e B hw dX12_write_59 ?_
      obtain ⟨x11, e, hf⟩ := ob hf
      refine q_callS (As := [.long v3, .int x10]) (rest := [.int ((40 * v1) + v2), .ref a8]) (st1 := [.long x11, .int ((40 * v1) + v2), .ref a8]) (c_X12_cut G e) B hw hz hc0 my_X12_cut mv_X12_cut tw_8_191 ⟨Nat.le_of_ble_eq_true rfl, Nat.le_of_ble_eq_true rfl⟩ ⟨Nat.zero_le _, Nat.zero_le _⟩ rfl hl.1 rfl rfl (Nat.le_of_ble_eq_true rfl) dX12_write_60 (fun H locs hw => ?_)
      obtain ⟨h12, e, hf⟩ := ob hf
      refine q_stJ e B hw dX12_write_63 (fun H locs hw => ?_)
      refine lv_aload_n hx hb dX12_write_64 rfl (lv_at hl 1 rfl) ?_
      obtain ⟨a13, e, hf⟩ := ob hf
      refine q_getR e B hw fd_12_35.1 fd_12_35.2.1 fd_12_35.2.2.1 fd_12_35.2.2.2.1 fd_12_35.2.2.2.2 rfl tw_6_82 dX12_write_65 ?_
      refine lv_bipush (v := 40) hx hb dX12_write_68 (by decide) ?_
      refine lv_iload_n hx hb dX12_write_70 rfl (lv_at hl 2 rfl) ?_
      refine lv_imul hx hb dX12_write_71 ?_
      refine lv_iload_n hx hb dX12_write_72 rfl (lv_at hl 3 rfl) ?_
      refine lv_iadd hx hb dX12_write_73 ?_
      obtain ⟨x14, e, hf⟩ := ob hf
      refine q_ldJ e B hw dX12_write_74 ?_
      obtain ⟨rfl, rfl⟩ := so2 hf
      exact q_lret B hw hz hc0 hr hlk dX12_write_75
    · have hf := (if_pos c7).symm.trans hf
      refine lv_ldc2 hx hb B.2.2.2.1 (B.w tw_8_190 rfl) dX12_write_39 ?_
      obtain ⟨rfl, rfl⟩ := so2 hf
      exact q_lret B hw hz hc0 hr hlk dX12_write_42
  · have hf := (if_neg c3).symm.trans hf
    refine lv_iload hx hb dX12_write_17 (lv_at hl 0 rfl) ?_
    refine lv_i2l (v := (Int32.toInt64 x2)) hx hb dX12_write_19 rfl ?_
    obtain ⟨rfl, rfl⟩ := so2 hf
    exact q_lret B hw hz hc0 hr hlk dX12_write_20
/-! SecondLifeModel.image(I)I -/
def f_X12_image_20 (n : Nat) (z : Sh) : Nat → Hp → Nat → Int32 → Int32 → Option (Int32 × Hp)
  | 0, _, _, _, _ => none
  | i + 1, h, v0, v1, v2 =>
    if 1458 ≤ v2 then
      (gR z h 12 v0 2).bind fun a2 =>
      (stZ z h a2 v1 1).bind fun h3 =>
      some ((0 : Int32), h3)
    else
      (gR z h 12 v0 1).bind fun a4 =>
      (gR z h 12 v0 1).bind fun a5 =>
      (ldI z h a5 v2).bind fun x6 =>
      (stI z h a4 ((1458 * (v1 + 1)) + v2) x6).bind fun h7 =>
      (some (v2 + 1)).bind fun x8 =>
      (f_X12_image_20 n z i) h7 v0 v1 x8
def f_X12_image (n : Nat) (z : Sh) (h : Hp) (v0 : Nat) (v1 : Int32) : Option (Int32 × Hp) :=
  if z.K v0 = 12 then
    (pI z h 12 v0 0 0).bind fun h1 =>
    (f_X12_within z h1 (Int32.toInt64 v1) 0 1).bind fun x2 =>
    if x2 = 0 then
      some (((-99000002) : Int32), h1)
    else
      f_X12_image_20 n z n h1 v0 v1 0
  else none
theorem k_X12_image {n : Nat} {z : Sh} {h : Hp} {v0 : Nat} {v1 : Int32} {w : Int32 × Hp} (hf : f_X12_image n z h v0 v1 = some w) : z.K v0 = 12 := by
  unfold f_X12_image at hf
  exact (if_some hf).1
set_option maxHeartbeats 4000000 in
theorem w_X12_image_20 {p : Program} {l : Launch} {e : Env} {s : State} {m : MethodId} {args : Array Value} {below : List Frame} {meth : Method} {c : Code} {s0 : State} {E : Ev} {z : Sh} {n : Nat} {r : Int32} {h' : Hp} (G : Gl s0 E) (B : Bd p s0 s E m c cX12_image 3 RX12) (hz : s0.heap.size ≤ z.sz) (hc0 : s.heap.size + 0 = z.sz) (hr : meth.sig.returnType = (some .int)) (hlk : meth.locks = false) : ∀ (i : Nat), ∀ (h : Hp) (v0 : Nat) (v1 : Int32) (v2 : Int32) (H : Heap) (locs : List Loc) (ls : Array Slot), Pw s0 s E z h H locs → lv_has ls 3 [(0, .ref v0), (1, .int v1), (2, .int v2)] → f_X12_image_20 n z i h v0 v1 v2 = some (r, h') → W p l e (rmO 1 25) s m args below meth c H locs 0 0 (Zt below s0 E z h' (some (.int r)) args s 0 0) (F0 m 20 ls []) := by
  have hx := B.1
  have hb := B.2.1
  intro i
  induction i with
  | zero =>
    intro h v0 v1 v2 H locs ls hw hl hf
    have hf := (f_X12_image_20.eq_1 ..).symm.trans hf
    cases hf
  | succ i ih =>
    intro h v0 v1 v2 H locs ls hw hl hf
    have hf := (f_X12_image_20.eq_2 ..).symm.trans hf
    refine lv_iload_n hx hb dX12_image_20 rfl (lv_at hl 2 rfl) ?_
    refine lv_sipush (v := 1458) hx hb dX12_image_21 (by decide) ?_
    refine lv_icmp_ge (tgt := 53) hx hb dX12_image_24 (by decide) (fun c1 => ?_) (fun c1 => ?_)
    · have hf := (if_pos c1).symm.trans hf
      refine lv_aload_n hx hb dX12_image_53 rfl (lv_at hl 0 rfl) ?_
      obtain ⟨a2, e, hf⟩ := ob hf
      refine q_getR e B hw fd_12_2.1 fd_12_2.2.1 fd_12_2.2.2.1 fd_12_2.2.2.2.1 fd_12_2.2.2.2.2 rfl tw_6_49 dX12_image_54 ?_
      refine lv_iload_n hx hb dX12_image_57 rfl (lv_at hl 1 rfl) ?_
      refine lv_iconst (v := 1) hx hb dX12_image_58 (by decide) ?_
      obtain ⟨h3, e, hf⟩ := ob hf
      refine q_stZ e B hw dX12_image_59 (fun H locs hw => ?_)
      refine lv_iconst (v := 0) hx hb dX12_image_60 (by decide) ?_
      obtain ⟨rfl, rfl⟩ := so2 hf
      exact q_iret B hw hz hc0 hr hlk dX12_image_61
    · have hf := (if_neg c1).symm.trans hf
      refine lv_aload_n hx hb dX12_image_27 rfl (lv_at hl 0 rfl) ?_
      obtain ⟨a4, e, hf⟩ := ob hf
      refine q_getR e B hw fd_12_1.1 fd_12_1.2.1 fd_12_1.2.2.1 fd_12_1.2.2.2.1 fd_12_1.2.2.2.2 rfl tw_6_48 dX12_image_28 ?_
      refine lv_sipush (v := 1458) hx hb dX12_image_31 (by decide) ?_
      refine lv_iload_n hx hb dX12_image_34 rfl (lv_at hl 1 rfl) ?_
      refine lv_iconst (v := 1) hx hb dX12_image_35 (by decide) ?_
      refine lv_iadd hx hb dX12_image_36 ?_
      refine lv_imul hx hb dX12_image_37 ?_
      refine lv_iload_n hx hb dX12_image_38 rfl (lv_at hl 2 rfl) ?_
      refine lv_iadd hx hb dX12_image_39 ?_
      refine lv_aload_n hx hb dX12_image_40 rfl (lv_at hl 0 rfl) ?_
      obtain ⟨a5, e, hf⟩ := ob hf
      refine q_getR e B hw fd_12_1.1 fd_12_1.2.1 fd_12_1.2.2.1 fd_12_1.2.2.2.1 fd_12_1.2.2.2.2 rfl tw_6_48 dX12_image_41 ?_
      refine lv_iload_n hx hb dX12_image_44 rfl (lv_at hl 2 rfl) ?_
      obtain ⟨x6, e, hf⟩ := ob hf
      refine q_ldI e B hw dX12_image_45 ?_
      obtain ⟨h7, e, hf⟩ := ob hf
      refine q_stI e B hw dX12_image_46 (fun H locs hw => ?_)
      obtain ⟨x8, e, hf⟩ := ob hf
      refine lv_iinc (v := x8) (lv' := [(2, .int x8), (0, .ref v0), (1, .int v1)]) hx hb dX12_image_47 hl (k := 2) rfl (Option.some.inj e) (by decide) rfl (fun ls hl => ?_)
      refine lv_goto (tgt := 20) hx hb dX12_image_50 (by decide) ?_
      exact ih h7 v0 v1 x8 _ _ _ hw (lv_sub hl [1, 2, 0] rfl) hf
set_option maxHeartbeats 4000000 in
theorem c_X12_image {l : Launch} {s0 : State} {E : Ev} (G : Gl s0 E) {n : Nat} {z : Sh} {h : Hp} {v0 : Nat} {v1 : Int32} {r : Int32} {h' : Hp} (hf : f_X12_image n z h v0 v1 = some (r, h')) : Ct l s0 E yX12_image cX12_image 3 (some .int) 1 25 [.ref v0, .int v1] z h h' (some (.int r)) := by
  refine Ct.of G (by decide) (Nat.le_of_ble_eq_true rfl) ?_
  intro p e s m below meth c ls B hw hz hc0 hr hlk hl
  have B : Bd p s0 s E m c cX12_image 3 RX12 := B
  have hx := B.1
  have hb := B.2.1
  have hl : lv_has ls 3 [(0, .ref v0), (1, .int v1)] := hl
  unfold f_X12_image at hf
  obtain ⟨_, hf⟩ := if_some hf
  refine lv_aload_n hx hb dX12_image_0 rfl (lv_at hl 0 rfl) ?_
  refine lv_iconst (v := 0) hx hb dX12_image_1 (by decide) ?_
  obtain ⟨h1, e, hf⟩ := ob hf
  refine q_putI e B hw fd_12_0.1 fd_12_0.2.1 fd_12_0.2.2.1 fd_12_0.2.2.2.1 fd_12_0.2.2.2.2 rfl rfl (tyX12_ok 0 (by decide)) tyX12 tyX12_ok nmX12 tw_6_47 dX12_image_2 (fun H locs hw => ?_)
  refine lv_iload_n hx hb dX12_image_5 rfl (lv_at hl 1 rfl) ?_
  refine lv_i2l (v := (Int32.toInt64 v1)) hx hb dX12_image_6 rfl ?_
  refine lv_lconst (v := 0) hx hb dX12_image_7 (by decide) ?_
  refine lv_lconst (v := 1) hx hb dX12_image_8 (by decide) ?_
  obtain ⟨x2, e, hf⟩ := ob hf
  refine q_callS (As := [.long (Int32.toInt64 v1), .long 0, .long 1]) (rest := []) (st1 := [.int x2]) (c_X12_within G e) B hw hz hc0 my_X12_within mv_X12_within tw_6_166 ⟨Nat.le_of_ble_eq_true rfl, Nat.le_of_ble_eq_true rfl⟩ ⟨Nat.zero_le _, Nat.zero_le _⟩ rfl hl.1 rfl rfl (Nat.le_of_ble_eq_true rfl) dX12_image_9 (fun H locs hw => ?_)
  refine lv_if_ne (tgt := 18) hx hb dX12_image_12 (by decide) (fun c3 => ?_) (fun c3 => ?_)
  · have hf := (if_neg c3).symm.trans hf
    refine lv_iconst (v := 0) hx hb dX12_image_18 (by decide) ?_
    refine lv_istore_n (lv' := [(2, .int 0), (0, .ref v0), (1, .int v1)]) hx hb dX12_image_19 rfl hl (by decide) rfl (fun ls hl => ?_)
    exact w_X12_image_20 G B hz hc0 hr hlk  n h1 v0 v1 0 _ _ _ hw (lv_sub hl [1, 2, 0] rfl) hf
  · have hf := (if_pos c3).symm.trans hf
    refine lv_ldc hx hb B.2.2.2.1 (B.w tw_7_43 rfl) dX12_image_15 ?_
    obtain ⟨rfl, rfl⟩ := so2 hf
    exact q_iret B hw hz hc0 hr hlk dX12_image_17
/-! SecondLifeModel.restore(I)I -/
def f_X12_restore_32 (n : Nat) (z : Sh) : Nat → Hp → Nat → Int32 → Int32 → Option (Int32 × Hp)
  | 0, _, _, _, _ => none
  | i + 1, h, v0, v1, v2 =>
    if 1458 ≤ v2 then
      (gR z h 12 v0 1).bind fun a2 =>
      (stI z h a2 66 0).bind fun h3 =>
      some ((0 : Int32), h3)
    else
      (gR z h 12 v0 1).bind fun a4 =>
      (gR z h 12 v0 1).bind fun a5 =>
      (ldI z h a5 ((1458 * (v1 + 1)) + v2)).bind fun x6 =>
      (stI z h a4 v2 x6).bind fun h7 =>
      (some (v2 + 1)).bind fun x8 =>
      (f_X12_restore_32 n z i) h7 v0 v1 x8
def f_X12_restore (n : Nat) (z : Sh) (h : Hp) (v0 : Nat) (v1 : Int32) : Option (Int32 × Hp) :=
  if z.K v0 = 12 then
    (pI z h 12 v0 0 0).bind fun h1 =>
    (f_X12_within z h1 (Int32.toInt64 v1) 0 1).bind fun x2 =>
    if x2 = 0 then
      some (((-99000002) : Int32), h1)
    else
      (gR z h1 12 v0 2).bind fun a4 =>
      (ldZ z h1 a4 v1).bind fun x5 =>
      if x5 = 0 then
        some (((-99000005) : Int32), h1)
      else
        f_X12_restore_32 n z n h1 v0 v1 0
  else none
theorem k_X12_restore {n : Nat} {z : Sh} {h : Hp} {v0 : Nat} {v1 : Int32} {w : Int32 × Hp} (hf : f_X12_restore n z h v0 v1 = some w) : z.K v0 = 12 := by
  unfold f_X12_restore at hf
  exact (if_some hf).1
set_option maxHeartbeats 4000000 in
theorem w_X12_restore_32 {p : Program} {l : Launch} {e : Env} {s : State} {m : MethodId} {args : Array Value} {below : List Frame} {meth : Method} {c : Code} {s0 : State} {E : Ev} {z : Sh} {n : Nat} {r : Int32} {h' : Hp} (G : Gl s0 E) (B : Bd p s0 s E m c cX12_restore 3 RX12) (hz : s0.heap.size ≤ z.sz) (hc0 : s.heap.size + 0 = z.sz) (hr : meth.sig.returnType = (some .int)) (hlk : meth.locks = false) : ∀ (i : Nat), ∀ (h : Hp) (v0 : Nat) (v1 : Int32) (v2 : Int32) (H : Heap) (locs : List Loc) (ls : Array Slot), Pw s0 s E z h H locs → lv_has ls 3 [(0, .ref v0), (1, .int v1), (2, .int v2)] → f_X12_restore_32 n z i h v0 v1 v2 = some (r, h') → W p l e (rmO 1 25) s m args below meth c H locs 0 0 (Zt below s0 E z h' (some (.int r)) args s 0 0) (F0 m 32 ls []) := by
  have hx := B.1
  have hb := B.2.1
  intro i
  induction i with
  | zero =>
    intro h v0 v1 v2 H locs ls hw hl hf
    have hf := (f_X12_restore_32.eq_1 ..).symm.trans hf
    cases hf
  | succ i ih =>
    intro h v0 v1 v2 H locs ls hw hl hf
    have hf := (f_X12_restore_32.eq_2 ..).symm.trans hf
    refine lv_iload_n hx hb dX12_restore_32 rfl (lv_at hl 2 rfl) ?_
    refine lv_sipush (v := 1458) hx hb dX12_restore_33 (by decide) ?_
    refine lv_icmp_ge (tgt := 65) hx hb dX12_restore_36 (by decide) (fun c1 => ?_) (fun c1 => ?_)
    · have hf := (if_pos c1).symm.trans hf
      refine lv_aload_n hx hb dX12_restore_65 rfl (lv_at hl 0 rfl) ?_
      obtain ⟨a2, e, hf⟩ := ob hf
      refine q_getR e B hw fd_12_1.1 fd_12_1.2.1 fd_12_1.2.2.1 fd_12_1.2.2.2.1 fd_12_1.2.2.2.2 rfl tw_6_48 dX12_restore_66 ?_
      refine lv_bipush (v := 66) hx hb dX12_restore_69 (by decide) ?_
      refine lv_iconst (v := 0) hx hb dX12_restore_71 (by decide) ?_
      obtain ⟨h3, e, hf⟩ := ob hf
      refine q_stI e B hw dX12_restore_72 (fun H locs hw => ?_)
      refine lv_iconst (v := 0) hx hb dX12_restore_73 (by decide) ?_
      obtain ⟨rfl, rfl⟩ := so2 hf
      exact q_iret B hw hz hc0 hr hlk dX12_restore_74
    · have hf := (if_neg c1).symm.trans hf
      refine lv_aload_n hx hb dX12_restore_39 rfl (lv_at hl 0 rfl) ?_
      obtain ⟨a4, e, hf⟩ := ob hf
      refine q_getR e B hw fd_12_1.1 fd_12_1.2.1 fd_12_1.2.2.1 fd_12_1.2.2.2.1 fd_12_1.2.2.2.2 rfl tw_6_48 dX12_restore_40 ?_
      refine lv_iload_n hx hb dX12_restore_43 rfl (lv_at hl 2 rfl) ?_
      refine lv_aload_n hx hb dX12_restore_44 rfl (lv_at hl 0 rfl) ?_
      obtain ⟨a5, e, hf⟩ := ob hf
      refine q_getR e B hw fd_12_1.1 fd_12_1.2.1 fd_12_1.2.2.1 fd_12_1.2.2.2.1 fd_12_1.2.2.2.2 rfl tw_6_48 dX12_restore_45 ?_
      refine lv_sipush (v := 1458) hx hb dX12_restore_48 (by decide) ?_
      refine lv_iload_n hx hb dX12_restore_51 rfl (lv_at hl 1 rfl) ?_
      refine lv_iconst (v := 1) hx hb dX12_restore_52 (by decide) ?_
      refine lv_iadd hx hb dX12_restore_53 ?_
      refine lv_imul hx hb dX12_restore_54 ?_
      refine lv_iload_n hx hb dX12_restore_55 rfl (lv_at hl 2 rfl) ?_
      refine lv_iadd hx hb dX12_restore_56 ?_
      obtain ⟨x6, e, hf⟩ := ob hf
      refine q_ldI e B hw dX12_restore_57 ?_
      obtain ⟨h7, e, hf⟩ := ob hf
      refine q_stI e B hw dX12_restore_58 (fun H locs hw => ?_)
      obtain ⟨x8, e, hf⟩ := ob hf
      refine lv_iinc (v := x8) (lv' := [(2, .int x8), (0, .ref v0), (1, .int v1)]) hx hb dX12_restore_59 hl (k := 2) rfl (Option.some.inj e) (by decide) rfl (fun ls hl => ?_)
      refine lv_goto (tgt := 32) hx hb dX12_restore_62 (by decide) ?_
      exact ih h7 v0 v1 x8 _ _ _ hw (lv_sub hl [1, 2, 0] rfl) hf
set_option maxHeartbeats 4000000 in
theorem c_X12_restore {l : Launch} {s0 : State} {E : Ev} (G : Gl s0 E) {n : Nat} {z : Sh} {h : Hp} {v0 : Nat} {v1 : Int32} {r : Int32} {h' : Hp} (hf : f_X12_restore n z h v0 v1 = some (r, h')) : Ct l s0 E yX12_restore cX12_restore 3 (some .int) 1 25 [.ref v0, .int v1] z h h' (some (.int r)) := by
  refine Ct.of G (by decide) (Nat.le_of_ble_eq_true rfl) ?_
  intro p e s m below meth c ls B hw hz hc0 hr hlk hl
  have B : Bd p s0 s E m c cX12_restore 3 RX12 := B
  have hx := B.1
  have hb := B.2.1
  have hl : lv_has ls 3 [(0, .ref v0), (1, .int v1)] := hl
  unfold f_X12_restore at hf
  obtain ⟨_, hf⟩ := if_some hf
  refine lv_aload_n hx hb dX12_restore_0 rfl (lv_at hl 0 rfl) ?_
  refine lv_iconst (v := 0) hx hb dX12_restore_1 (by decide) ?_
  obtain ⟨h1, e, hf⟩ := ob hf
  refine q_putI e B hw fd_12_0.1 fd_12_0.2.1 fd_12_0.2.2.1 fd_12_0.2.2.2.1 fd_12_0.2.2.2.2 rfl rfl (tyX12_ok 0 (by decide)) tyX12 tyX12_ok nmX12 tw_6_47 dX12_restore_2 (fun H locs hw => ?_)
  refine lv_iload_n hx hb dX12_restore_5 rfl (lv_at hl 1 rfl) ?_
  refine lv_i2l (v := (Int32.toInt64 v1)) hx hb dX12_restore_6 rfl ?_
  refine lv_lconst (v := 0) hx hb dX12_restore_7 (by decide) ?_
  refine lv_lconst (v := 1) hx hb dX12_restore_8 (by decide) ?_
  obtain ⟨x2, e, hf⟩ := ob hf
  refine q_callS (As := [.long (Int32.toInt64 v1), .long 0, .long 1]) (rest := []) (st1 := [.int x2]) (c_X12_within G e) B hw hz hc0 my_X12_within mv_X12_within tw_6_166 ⟨Nat.le_of_ble_eq_true rfl, Nat.le_of_ble_eq_true rfl⟩ ⟨Nat.zero_le _, Nat.zero_le _⟩ rfl hl.1 rfl rfl (Nat.le_of_ble_eq_true rfl) dX12_restore_9 (fun H locs hw => ?_)
  refine lv_if_ne (tgt := 18) hx hb dX12_restore_12 (by decide) (fun c3 => ?_) (fun c3 => ?_)
  · have hf := (if_neg c3).symm.trans hf
    refine lv_aload_n hx hb dX12_restore_18 rfl (lv_at hl 0 rfl) ?_
    obtain ⟨a4, e, hf⟩ := ob hf
    refine q_getR e B hw fd_12_2.1 fd_12_2.2.1 fd_12_2.2.2.1 fd_12_2.2.2.2.1 fd_12_2.2.2.2.2 rfl tw_6_49 dX12_restore_19 ?_
    refine lv_iload_n hx hb dX12_restore_22 rfl (lv_at hl 1 rfl) ?_
    obtain ⟨x5, e, hf⟩ := ob hf
    refine q_ldZ e B hw dX12_restore_23 ?_
    refine lv_if_ne (tgt := 30) hx hb dX12_restore_24 (by decide) (fun c6 => ?_) (fun c6 => ?_)
    · have hf := (if_neg c6).symm.trans hf
      refine lv_iconst (v := 0) hx hb dX12_restore_30 (by decide) ?_
      refine lv_istore_n (lv' := [(2, .int 0), (0, .ref v0), (1, .int v1)]) hx hb dX12_restore_31 rfl hl (by decide) rfl (fun ls hl => ?_)
      exact w_X12_restore_32 G B hz hc0 hr hlk  n h1 v0 v1 0 _ _ _ hw (lv_sub hl [1, 2, 0] rfl) hf
    · have hf := (if_pos c6).symm.trans hf
      refine lv_ldc hx hb B.2.2.2.1 (B.w tw_6_161 rfl) dX12_restore_27 ?_
      obtain ⟨rfl, rfl⟩ := so2 hf
      exact q_iret B hw hz hc0 hr hlk dX12_restore_29
  · have hf := (if_pos c3).symm.trans hf
    refine lv_ldc hx hb B.2.2.2.1 (B.w tw_7_43 rfl) dX12_restore_15 ?_
    obtain ⟨rfl, rfl⟩ := so2 hf
    exact q_iret B hw hz hc0 hr hlk dX12_restore_17
/-! SecondLifeModel.pledgedSet()I -/
def f_X12_pledgedSet_34 (n : Nat) (z : Sh) (h : Hp) (k4 : Nat → Int32 → Int32 → Option (Int32)) (v0 : Nat) (v2 : Int32) (u0 : Int32) (u1 : Int32) : Option (Int32) :=
  (some (u1 ||| u0)).bind fun x1 =>
  (some (v2 + 1)).bind fun x2 =>
  k4 v0 x1 x2
def f_X12_pledgedSet_4 (n : Nat) (z : Sh) (h : Hp) : Nat → Nat → Int32 → Int32 → Option (Int32)
  | 0, _, _, _ => none
  | i + 1, v0, v1, v2 =>
    (gR z h 12 v0 1).bind fun a1 =>
    (ldI z h a1 3).bind fun x2 =>
    if x2 ≤ v2 then
      some v1
    else
      (gR z h 12 v0 1).bind fun a4 =>
      (ldI z h a4 (60 + v2)).bind fun x5 =>
      if x5 ≤ 0 then
        f_X12_pledgedSet_34 n z h (f_X12_pledgedSet_4 n z h i) v0 v2 0 v1
      else
        f_X12_pledgedSet_34 n z h (f_X12_pledgedSet_4 n z h i) v0 v2 ((1 : Int32) <<< (v2 &&& 31)) v1
def f_X12_pledgedSet (n : Nat) (z : Sh) (h : Hp) (v0 : Nat) : Option (Int32) :=
  if z.K v0 = 12 then
    f_X12_pledgedSet_4 n z h n v0 0 0
  else none
theorem k_X12_pledgedSet {n : Nat} {z : Sh} {h : Hp} {v0 : Nat} {w : Int32} (hf : f_X12_pledgedSet n z h v0 = some w) : z.K v0 = 12 := by
  unfold f_X12_pledgedSet at hf
  exact (if_some hf).1
set_option maxHeartbeats 4000000 in
theorem w_X12_pledgedSet_34 {p : Program} {l : Launch} {e : Env} {s : State} {m : MethodId} {args : Array Value} {below : List Frame} {meth : Method} {c : Code} {s0 : State} {E : Ev} {z : Sh} {h : Hp} {n : Nat} {k4 : Nat → Int32 → Int32 → Option (Int32)} {r : Int32} (G : Gl s0 E) (B : Bd p s0 s E m c cX12_pledgedSet 3 RX12) (hz : s0.heap.size ≤ z.sz) (hc0 : s.heap.size + 0 = z.sz) (hr : meth.sig.returnType = (some .int)) (hlk : meth.locks = false) (hk4 : ∀ (v0 : Nat) (v1 : Int32) (v2 : Int32) (H : Heap) (locs : List Loc) (ls : Array Slot), Pw s0 s E z h H locs → lv_has ls 3 [(0, .ref v0), (1, .int v1), (2, .int v2)] → k4 v0 v1 v2 = some r → W p l e (rmO 0 0) s m args below meth c H locs 0 0 (Zt below s0 E z h (some (.int r)) args s 0 0) (F0 m 4 ls [])) : ∀ (v0 : Nat) (v2 : Int32) (u0 : Int32) (u1 : Int32) (H : Heap) (locs : List Loc) (ls : Array Slot), Pw s0 s E z h H locs → lv_has ls 3 [(0, .ref v0), (2, .int v2)] → f_X12_pledgedSet_34 n z h k4 v0 v2 u0 u1 = some r → W p l e (rmO 0 0) s m args below meth c H locs 0 0 (Zt below s0 E z h (some (.int r)) args s 0 0) (F0 m 34 ls [.int u0, .int u1]) := by
  have hx := B.1
  have hb := B.2.1
  intro v0 v2 u0 u1 H locs ls hw hl hf
  unfold f_X12_pledgedSet_34 at hf
  refine lv_ior hx hb dX12_pledgedSet_34 ?_
  obtain ⟨x1, e, hf⟩ := ob hf
  refine q_nmI e ?_
  refine lv_istore_n (lv' := [(1, .int x1), (0, .ref v0), (2, .int v2)]) hx hb dX12_pledgedSet_35 rfl hl (by decide) rfl (fun ls hl => ?_)
  obtain ⟨x2, e, hf⟩ := ob hf
  refine lv_iinc (v := x2) (lv' := [(2, .int x2), (1, .int x1), (0, .ref v0)]) hx hb dX12_pledgedSet_36 hl (k := 2) rfl (Option.some.inj e) (by decide) rfl (fun ls hl => ?_)
  refine lv_goto (tgt := 4) hx hb dX12_pledgedSet_39 (by decide) ?_
  exact hk4 v0 x1 x2 _ _ _ hw (lv_sub hl [2, 1, 0] rfl) hf
set_option maxHeartbeats 4000000 in
theorem w_X12_pledgedSet_4 {p : Program} {l : Launch} {e : Env} {s : State} {m : MethodId} {args : Array Value} {below : List Frame} {meth : Method} {c : Code} {s0 : State} {E : Ev} {z : Sh} {h : Hp} {n : Nat} {r : Int32} (G : Gl s0 E) (B : Bd p s0 s E m c cX12_pledgedSet 3 RX12) (hz : s0.heap.size ≤ z.sz) (hc0 : s.heap.size + 0 = z.sz) (hr : meth.sig.returnType = (some .int)) (hlk : meth.locks = false) : ∀ (i : Nat), ∀ (v0 : Nat) (v1 : Int32) (v2 : Int32) (H : Heap) (locs : List Loc) (ls : Array Slot), Pw s0 s E z h H locs → lv_has ls 3 [(0, .ref v0), (1, .int v1), (2, .int v2)] → f_X12_pledgedSet_4 n z h i v0 v1 v2 = some r → W p l e (rmO 0 0) s m args below meth c H locs 0 0 (Zt below s0 E z h (some (.int r)) args s 0 0) (F0 m 4 ls []) := by
  have hx := B.1
  have hb := B.2.1
  intro i
  induction i with
  | zero =>
    intro v0 v1 v2 H locs ls hw hl hf
    have hf := (f_X12_pledgedSet_4.eq_1 ..).symm.trans hf
    cases hf
  | succ i ih =>
    intro v0 v1 v2 H locs ls hw hl hf
    have hf := (f_X12_pledgedSet_4.eq_2 ..).symm.trans hf
    refine lv_iload_n hx hb dX12_pledgedSet_4 rfl (lv_at hl 2 rfl) ?_
    refine lv_aload_n hx hb dX12_pledgedSet_5 rfl (lv_at hl 0 rfl) ?_
    obtain ⟨a1, e, hf⟩ := ob hf
    refine q_getR e B hw fd_12_1.1 fd_12_1.2.1 fd_12_1.2.2.1 fd_12_1.2.2.2.1 fd_12_1.2.2.2.2 rfl tw_6_48 dX12_pledgedSet_6 ?_
    refine lv_iconst (v := 3) hx hb dX12_pledgedSet_9 (by decide) ?_
    obtain ⟨x2, e, hf⟩ := ob hf
    refine q_ldI e B hw dX12_pledgedSet_10 ?_
    refine lv_icmp_ge (tgt := 42) hx hb dX12_pledgedSet_11 (by decide) (fun c3 => ?_) (fun c3 => ?_)
    · have hf := (if_pos c3).symm.trans hf
      refine lv_iload_n hx hb dX12_pledgedSet_42 rfl (lv_at hl 1 rfl) ?_
      obtain rfl := so hf
      exact q_iret B hw hz hc0 hr hlk dX12_pledgedSet_43
    · have hf := (if_neg c3).symm.trans hf
      refine lv_iload_n hx hb dX12_pledgedSet_14 rfl (lv_at hl 1 rfl) ?_
      refine lv_aload_n hx hb dX12_pledgedSet_15 rfl (lv_at hl 0 rfl) ?_
      obtain ⟨a4, e, hf⟩ := ob hf
      refine q_getR e B hw fd_12_1.1 fd_12_1.2.1 fd_12_1.2.2.1 fd_12_1.2.2.2.1 fd_12_1.2.2.2.2 rfl tw_6_48 dX12_pledgedSet_16 ?_
      refine lv_bipush (v := 60) hx hb dX12_pledgedSet_19 (by decide) ?_
      refine lv_iload_n hx hb dX12_pledgedSet_21 rfl (lv_at hl 2 rfl) ?_
      refine lv_iadd hx hb dX12_pledgedSet_22 ?_
      obtain ⟨x5, e, hf⟩ := ob hf
      refine q_ldI e B hw dX12_pledgedSet_23 ?_
      refine lv_if_le (tgt := 33) hx hb dX12_pledgedSet_24 (by decide) (fun c6 => ?_) (fun c6 => ?_)
      · have hf := (if_pos c6).symm.trans hf
        refine lv_iconst (v := 0) hx hb dX12_pledgedSet_33 (by decide) ?_
        exact w_X12_pledgedSet_34 G B hz hc0 hr hlk ih v0 v2 0 v1 _ _ _ hw (lv_sub hl [0, 2] rfl) hf
      · have hf := (if_neg c6).symm.trans hf
        refine lv_iconst (v := 1) hx hb dX12_pledgedSet_27 (by decide) ?_
        refine lv_iload_n hx hb dX12_pledgedSet_28 rfl (lv_at hl 2 rfl) ?_
        refine lv_ishl hx hb dX12_pledgedSet_29 ?_
        refine lv_goto (tgt := 34) hx hb dX12_pledgedSet_30 (by decide) ?_
        exact w_X12_pledgedSet_34 G B hz hc0 hr hlk ih v0 v2 ((1 : Int32) <<< (v2 &&& 31)) v1 _ _ _ hw (lv_sub hl [0, 2] rfl) hf
set_option maxHeartbeats 4000000 in
theorem c_X12_pledgedSet {l : Launch} {s0 : State} {E : Ev} (G : Gl s0 E) {n : Nat} {z : Sh} {h : Hp} {v0 : Nat} {r : Int32} (hf : f_X12_pledgedSet n z h v0 = some r) : Ct l s0 E yX12_pledgedSet cX12_pledgedSet 3 (some .int) 0 0 [.ref v0] z h h (some (.int r)) := by
  refine Ct.of G (by decide) (Nat.le_of_ble_eq_true rfl) ?_
  intro p e s m below meth c ls B hw hz hc0 hr hlk hl
  have B : Bd p s0 s E m c cX12_pledgedSet 3 RX12 := B
  have hx := B.1
  have hb := B.2.1
  have hl : lv_has ls 3 [(0, .ref v0)] := hl
  unfold f_X12_pledgedSet at hf
  obtain ⟨_, hf⟩ := if_some hf
  refine lv_iconst (v := 0) hx hb dX12_pledgedSet_0 (by decide) ?_
  refine lv_istore_n (lv' := [(1, .int 0), (0, .ref v0)]) hx hb dX12_pledgedSet_1 rfl hl (by decide) rfl (fun ls hl => ?_)
  refine lv_iconst (v := 0) hx hb dX12_pledgedSet_2 (by decide) ?_
  refine lv_istore_n (lv' := [(2, .int 0), (1, .int 0), (0, .ref v0)]) hx hb dX12_pledgedSet_3 rfl hl (by decide) rfl (fun ls hl => ?_)
  exact w_X12_pledgedSet_4 G B hz hc0 hr hlk  n v0 0 0 _ _ _ hw (lv_sub hl [2, 1, 0] rfl) hf
/-! SecondLifeModel.count(I)I -/
def f_X12_count (n : Nat) (z : Sh) (h : Hp) (v0 : Nat) (v1 : Int32) : Option (Int32 × Hp) :=
  if z.K v0 = 12 then
    (pI z h 12 v0 0 0).bind fun h1 =>
    if v1 = 0 then
      (gR z h1 12 v0 1).bind fun a2 =>
      (ldI z h1 a2 1).bind fun x3 =>
      some (x3, h1)
    else
      if v1 = 1 then
        (gR z h1 12 v0 1).bind fun a4 =>
        (ldI z h1 a4 2).bind fun x5 =>
        some (x5, h1)
      else
        if v1 = 2 then
          (gR z h1 12 v0 1).bind fun a6 =>
          (ldI z h1 a6 3).bind fun x7 =>
          some (x7, h1)
        else
          if v1 = 3 then
            (gR z h1 12 v0 1).bind fun a8 =>
            (ldI z h1 a8 17).bind fun x9 =>
            some (x9, h1)
          else
            if v1 = 4 then
              (f_X12_hasAll n z h1 v0).bind fun x10 =>
              some (x10, h1)
            else
              if v1 = 5 then
                (f_X12_inSecond n z h1 v0).bind fun x11 =>
                some (x11, h1)
              else
                if v1 = 6 then
                  (f_X12_pledgedSet n z h1 v0).bind fun x12 =>
                  some (x12, h1)
                else
                  if v1 = 7 then
                    (gR z h1 12 v0 1).bind fun a13 =>
                    (ldI z h1 a13 66).bind fun x14 =>
                    some (x14, h1)
                  else
                    if v1 = 8 then
                      (gI z h1 12 v0 5).bind fun x15 =>
                      some (x15, h1)
                    else
                      if v1 = 9 then
                        (gR z h1 12 v0 1).bind fun a16 =>
                        (ldI z h1 a16 0).bind fun x17 =>
                        some (x17, h1)
                      else
                        some (((-1) : Int32), h1)
  else none
theorem k_X12_count {n : Nat} {z : Sh} {h : Hp} {v0 : Nat} {v1 : Int32} {w : Int32 × Hp} (hf : f_X12_count n z h v0 v1 = some w) : z.K v0 = 12 := by
  unfold f_X12_count at hf
  exact (if_some hf).1
set_option maxHeartbeats 4000000 in
theorem c_X12_count {l : Launch} {s0 : State} {E : Ev} (G : Gl s0 E) {n : Nat} {z : Sh} {h : Hp} {v0 : Nat} {v1 : Int32} {r : Int32} {h' : Hp} (hf : f_X12_count n z h v0 v1 = some (r, h')) : Ct l s0 E yX12_count cX12_count 2 (some .int) 1 22 [.ref v0, .int v1] z h h' (some (.int r)) := by
  refine Ct.of G (by decide) (Nat.le_of_ble_eq_true rfl) ?_
  intro p e s m below meth c ls B hw hz hc0 hr hlk hl
  have B : Bd p s0 s E m c cX12_count 2 RX12 := B
  have hx := B.1
  have hb := B.2.1
  have hl : lv_has ls 2 [(0, .ref v0), (1, .int v1)] := hl
  unfold f_X12_count at hf
  obtain ⟨_, hf⟩ := if_some hf
  refine lv_aload_n hx hb dX12_count_0 rfl (lv_at hl 0 rfl) ?_
  refine lv_iconst (v := 0) hx hb dX12_count_1 (by decide) ?_
  obtain ⟨h1, e, hf⟩ := ob hf
  refine q_putI e B hw fd_12_0.1 fd_12_0.2.1 fd_12_0.2.2.1 fd_12_0.2.2.2.1 fd_12_0.2.2.2.2 rfl rfl (tyX12_ok 0 (by decide)) tyX12 tyX12_ok nmX12 tw_6_47 dX12_count_2 (fun H locs hw => ?_)
  refine lv_iload_n hx hb dX12_count_5 rfl (lv_at hl 1 rfl) ?_
  by_cases c6_0 : v1 = 0
  · have hf := (if_pos c6_0).symm.trans hf
    refine lv_tableIn (off := 54) (tgt := 60) hx hb dX12_count_6 (by rw [c6_0]; decide) (by rw [c6_0]; decide) (by rw [c6_0]; rfl) (by decide) ?_
    refine lv_aload_n hx hb dX12_count_60 rfl (lv_at hl 0 rfl) ?_
    obtain ⟨a2, e, hf⟩ := ob hf
    refine q_getR e B hw fd_12_1.1 fd_12_1.2.1 fd_12_1.2.2.1 fd_12_1.2.2.2.1 fd_12_1.2.2.2.2 rfl tw_6_48 dX12_count_61 ?_
    refine lv_iconst (v := 1) hx hb dX12_count_64 (by decide) ?_
    obtain ⟨x3, e, hf⟩ := ob hf
    refine q_ldI e B hw dX12_count_65 ?_
    obtain ⟨rfl, rfl⟩ := so2 hf
    exact q_iret B hw hz hc0 hr hlk dX12_count_66
  have hf := (if_neg c6_0).symm.trans hf
  by_cases c6_1 : v1 = 1
  · have hf := (if_pos c6_1).symm.trans hf
    refine lv_tableIn (off := 61) (tgt := 67) hx hb dX12_count_6 (by rw [c6_1]; decide) (by rw [c6_1]; decide) (by rw [c6_1]; rfl) (by decide) ?_
    refine lv_aload_n hx hb dX12_count_67 rfl (lv_at hl 0 rfl) ?_
    obtain ⟨a4, e, hf⟩ := ob hf
    refine q_getR e B hw fd_12_1.1 fd_12_1.2.1 fd_12_1.2.2.1 fd_12_1.2.2.2.1 fd_12_1.2.2.2.2 rfl tw_6_48 dX12_count_68 ?_
    refine lv_iconst (v := 2) hx hb dX12_count_71 (by decide) ?_
    obtain ⟨x5, e, hf⟩ := ob hf
    refine q_ldI e B hw dX12_count_72 ?_
    obtain ⟨rfl, rfl⟩ := so2 hf
    exact q_iret B hw hz hc0 hr hlk dX12_count_73
  have hf := (if_neg c6_1).symm.trans hf
  by_cases c6_2 : v1 = 2
  · have hf := (if_pos c6_2).symm.trans hf
    refine lv_tableIn (off := 68) (tgt := 74) hx hb dX12_count_6 (by rw [c6_2]; decide) (by rw [c6_2]; decide) (by rw [c6_2]; rfl) (by decide) ?_
    refine lv_aload_n hx hb dX12_count_74 rfl (lv_at hl 0 rfl) ?_
    obtain ⟨a6, e, hf⟩ := ob hf
    refine q_getR e B hw fd_12_1.1 fd_12_1.2.1 fd_12_1.2.2.1 fd_12_1.2.2.2.1 fd_12_1.2.2.2.2 rfl tw_6_48 dX12_count_75 ?_
    refine lv_iconst (v := 3) hx hb dX12_count_78 (by decide) ?_
    obtain ⟨x7, e, hf⟩ := ob hf
    refine q_ldI e B hw dX12_count_79 ?_
    obtain ⟨rfl, rfl⟩ := so2 hf
    exact q_iret B hw hz hc0 hr hlk dX12_count_80
  have hf := (if_neg c6_2).symm.trans hf
  by_cases c6_3 : v1 = 3
  · have hf := (if_pos c6_3).symm.trans hf
    refine lv_tableIn (off := 75) (tgt := 81) hx hb dX12_count_6 (by rw [c6_3]; decide) (by rw [c6_3]; decide) (by rw [c6_3]; rfl) (by decide) ?_
    refine lv_aload_n hx hb dX12_count_81 rfl (lv_at hl 0 rfl) ?_
    obtain ⟨a8, e, hf⟩ := ob hf
    refine q_getR e B hw fd_12_1.1 fd_12_1.2.1 fd_12_1.2.2.1 fd_12_1.2.2.2.1 fd_12_1.2.2.2.2 rfl tw_6_48 dX12_count_82 ?_
    refine lv_bipush (v := 17) hx hb dX12_count_85 (by decide) ?_
    obtain ⟨x9, e, hf⟩ := ob hf
    refine q_ldI e B hw dX12_count_87 ?_
    obtain ⟨rfl, rfl⟩ := so2 hf
    exact q_iret B hw hz hc0 hr hlk dX12_count_88
  have hf := (if_neg c6_3).symm.trans hf
  by_cases c6_4 : v1 = 4
  · have hf := (if_pos c6_4).symm.trans hf
    refine lv_tableIn (off := 83) (tgt := 89) hx hb dX12_count_6 (by rw [c6_4]; decide) (by rw [c6_4]; decide) (by rw [c6_4]; rfl) (by decide) ?_
    refine lv_aload_n hx hb dX12_count_89 rfl (lv_at hl 0 rfl) ?_
    obtain ⟨x10, e, hf⟩ := ob hf
    refine q_callV (As := []) (rest := []) (st1 := [.int x10]) (c_X12_hasAll G e) B hw hz hc0 (k_X12_hasAll e) (by decide) (ci := 12) rfl rfl my_X12_hasAll mv_X12_hasAll tw_7_203 ⟨Nat.le_of_ble_eq_true rfl, Nat.le_of_ble_eq_true rfl⟩ ⟨Nat.zero_le _, Nat.zero_le _⟩ rfl hl.1 rfl rfl (Nat.le_of_ble_eq_true rfl) dX12_count_90 (fun H locs hw => ?_)
    obtain ⟨rfl, rfl⟩ := so2 hf
    exact q_iret B hw hz hc0 hr hlk dX12_count_93
  have hf := (if_neg c6_4).symm.trans hf
  by_cases c6_5 : v1 = 5
  · have hf := (if_pos c6_5).symm.trans hf
    refine lv_tableIn (off := 88) (tgt := 94) hx hb dX12_count_6 (by rw [c6_5]; decide) (by rw [c6_5]; decide) (by rw [c6_5]; rfl) (by decide) ?_
    refine lv_aload_n hx hb dX12_count_94 rfl (lv_at hl 0 rfl) ?_
    obtain ⟨x11, e, hf⟩ := ob hf
    refine q_callV (As := []) (rest := []) (st1 := [.int x11]) (c_X12_inSecond G e) B hw hz hc0 (k_X12_inSecond e) (by decide) (ci := 12) rfl rfl my_X12_inSecond mv_X12_inSecond tw_7_207 ⟨Nat.le_of_ble_eq_true rfl, Nat.le_of_ble_eq_true rfl⟩ ⟨Nat.zero_le _, Nat.zero_le _⟩ rfl hl.1 rfl rfl (Nat.le_of_ble_eq_true rfl) dX12_count_95 (fun H locs hw => ?_)
    obtain ⟨rfl, rfl⟩ := so2 hf
    exact q_iret B hw hz hc0 hr hlk dX12_count_98
  have hf := (if_neg c6_5).symm.trans hf
  by_cases c6_6 : v1 = 6
  · have hf := (if_pos c6_6).symm.trans hf
    refine lv_tableIn (off := 93) (tgt := 99) hx hb dX12_count_6 (by rw [c6_6]; decide) (by rw [c6_6]; decide) (by rw [c6_6]; rfl) (by decide) ?_
    refine lv_aload_n hx hb dX12_count_99 rfl (lv_at hl 0 rfl) ?_
    obtain ⟨x12, e, hf⟩ := ob hf
    refine q_callV (As := []) (rest := []) (st1 := [.int x12]) (c_X12_pledgedSet G e) B hw hz hc0 (k_X12_pledgedSet e) (by decide) (ci := 12) rfl rfl my_X12_pledgedSet mv_X12_pledgedSet tw_8_210 ⟨Nat.le_of_ble_eq_true rfl, Nat.le_of_ble_eq_true rfl⟩ ⟨Nat.zero_le _, Nat.zero_le _⟩ rfl hl.1 rfl rfl (Nat.le_of_ble_eq_true rfl) dX12_count_100 (fun H locs hw => ?_)
    obtain ⟨rfl, rfl⟩ := so2 hf
    exact q_iret B hw hz hc0 hr hlk dX12_count_103
  have hf := (if_neg c6_6).symm.trans hf
  by_cases c6_7 : v1 = 7
  · have hf := (if_pos c6_7).symm.trans hf
    refine lv_tableIn (off := 98) (tgt := 104) hx hb dX12_count_6 (by rw [c6_7]; decide) (by rw [c6_7]; decide) (by rw [c6_7]; rfl) (by decide) ?_
    refine lv_aload_n hx hb dX12_count_104 rfl (lv_at hl 0 rfl) ?_
    obtain ⟨a13, e, hf⟩ := ob hf
    refine q_getR e B hw fd_12_1.1 fd_12_1.2.1 fd_12_1.2.2.1 fd_12_1.2.2.2.1 fd_12_1.2.2.2.2 rfl tw_6_48 dX12_count_105 ?_
    refine lv_bipush (v := 66) hx hb dX12_count_108 (by decide) ?_
    obtain ⟨x14, e, hf⟩ := ob hf
    refine q_ldI e B hw dX12_count_110 ?_
    obtain ⟨rfl, rfl⟩ := so2 hf
    exact q_iret B hw hz hc0 hr hlk dX12_count_111
  have hf := (if_neg c6_7).symm.trans hf
  by_cases c6_8 : v1 = 8
  · have hf := (if_pos c6_8).symm.trans hf
    refine lv_tableIn (off := 106) (tgt := 112) hx hb dX12_count_6 (by rw [c6_8]; decide) (by rw [c6_8]; decide) (by rw [c6_8]; rfl) (by decide) ?_
    refine lv_aload_n hx hb dX12_count_112 rfl (lv_at hl 0 rfl) ?_
    obtain ⟨x15, e, hf⟩ := ob hf
    refine q_getI e B hw fd_12_5.1 fd_12_5.2.1 fd_12_5.2.2.1 fd_12_5.2.2.2.1 fd_12_5.2.2.2.2 rfl tw_6_52 dX12_count_113 ?_
    obtain ⟨rfl, rfl⟩ := so2 hf
    exact q_iret B hw hz hc0 hr hlk dX12_count_116
  have hf := (if_neg c6_8).symm.trans hf
  by_cases c6_9 : v1 = 9
  · have hf := (if_pos c6_9).symm.trans hf
    refine lv_tableIn (off := 111) (tgt := 117) hx hb dX12_count_6 (by rw [c6_9]; decide) (by rw [c6_9]; decide) (by rw [c6_9]; rfl) (by decide) ?_
    refine lv_aload_n hx hb dX12_count_117 rfl (lv_at hl 0 rfl) ?_
    obtain ⟨a16, e, hf⟩ := ob hf
    refine q_getR e B hw fd_12_1.1 fd_12_1.2.1 fd_12_1.2.2.1 fd_12_1.2.2.2.1 fd_12_1.2.2.2.2 rfl tw_6_48 dX12_count_118 ?_
    refine lv_iconst (v := 0) hx hb dX12_count_121 (by decide) ?_
    obtain ⟨x17, e, hf⟩ := ob hf
    refine q_ldI e B hw dX12_count_122 ?_
    obtain ⟨rfl, rfl⟩ := so2 hf
    exact q_iret B hw hz hc0 hr hlk dX12_count_123
  have hf := (if_neg c6_9).symm.trans hf
  refine lv_tableOut (tgt := 124) hx hb dX12_count_6 (sw_out (fun k h1 h2 => ?_)) (by decide) ?_
  · rcases (show k = (0) ∨ k = (1) ∨ k = (2) ∨ k = (3) ∨ k = (4) ∨ k = (5) ∨ k = (6) ∨ k = (7) ∨ k = (8) ∨ k = (9) by omega) with rfl | rfl | rfl | rfl | rfl | rfl | rfl | rfl | rfl | rfl
    · exact fun q => c6_0 (Int32.toInt_inj.mp q)
    · exact fun q => c6_1 (Int32.toInt_inj.mp q)
    · exact fun q => c6_2 (Int32.toInt_inj.mp q)
    · exact fun q => c6_3 (Int32.toInt_inj.mp q)
    · exact fun q => c6_4 (Int32.toInt_inj.mp q)
    · exact fun q => c6_5 (Int32.toInt_inj.mp q)
    · exact fun q => c6_6 (Int32.toInt_inj.mp q)
    · exact fun q => c6_7 (Int32.toInt_inj.mp q)
    · exact fun q => c6_8 (Int32.toInt_inj.mp q)
    · exact fun q => c6_9 (Int32.toInt_inj.mp q)
  refine lv_iconst (v := (-1)) hx hb dX12_count_124 (by decide) ?_
  obtain ⟨rfl, rfl⟩ := so2 hf
  exact q_iret B hw hz hc0 hr hlk dX12_count_125
/-! SecondLife$Chances.tens(I)J -/
def f_X0_tens (z : Sh) (h : Hp) (v0 : Int32) : Option (Int64) :=
  if v0 < 0 then
    some (0 : Int64)
  else
    (aL z (z.st 2)).bind fun x2 =>
    if x2 ≤ v0 then
      some (0 : Int64)
    else
      (ldJ z h (z.st 2) v0).bind fun x4 =>
      some x4
set_option maxHeartbeats 4000000 in
theorem c_X0_tens {l : Launch} {s0 : State} {E : Ev} (G : Gl s0 E) {z : Sh} {h : Hp} {v0 : Int32} {r : Int64} (hf : f_X0_tens z h v0 = some r) : Ct l s0 E yX0_tens cX0_tens 1 (some .long) 0 0 [.int v0] z h h (some (.long r)) := by
  refine Ct.of G (by decide) (Nat.le_of_ble_eq_true rfl) ?_
  intro p e s m below meth c ls B hw hz hc0 hr hlk hl
  have B : Bd p s0 s E m c cX0_tens 1 RX0 := B
  have hx := B.1
  have hb := B.2.1
  have hl : lv_has ls 1 [(0, .int v0)] := hl
  unfold f_X0_tens at hf
  refine lv_iload_n hx hb dX0_tens_0 rfl (lv_at hl 0 rfl) ?_
  refine lv_if_lt (tgt := 20) hx hb dX0_tens_1 (by decide) (fun c1 => ?_) (fun c1 => ?_)
  · have hf := (if_pos c1).symm.trans hf
    refine lv_lconst (v := 0) hx hb dX0_tens_20 (by decide) ?_
    obtain rfl := so hf
    exact q_lret B hw hz hc0 hr hlk dX0_tens_21
  · have hf := (if_neg c1).symm.trans hf
    refine lv_iload_n hx hb dX0_tens_4 rfl (lv_at hl 0 rfl) ?_
    refine q_gsR (k := 2) G.2.2.2.2.1 B hw rfl tw_5_71 dX0_tens_5 ?_
    obtain ⟨x2, e, hf⟩ := ob hf
    refine q_len e B hw dX0_tens_8 ?_
    refine lv_icmp_ge (tgt := 20) hx hb dX0_tens_9 (by decide) (fun c3 => ?_) (fun c3 => ?_)
    · have hf := (if_pos c3).symm.trans hf
      refine lv_lconst (v := 0) hx hb dX0_tens_20 (by decide) ?_
      obtain rfl := so hf
      exact q_lret B hw hz hc0 hr hlk dX0_tens_21
    · have hf := (if_neg c3).symm.trans hf
      refine q_gsR (k := 2) G.2.2.2.2.1 B hw rfl tw_5_71 dX0_tens_12 ?_
      refine lv_iload_n hx hb dX0_tens_15 rfl (lv_at hl 0 rfl) ?_
      obtain ⟨x4, e, hf⟩ := ob hf
      refine q_ldJ e B hw dX0_tens_16 ?_
      refine lv_goto (tgt := 21) hx hb dX0_tens_17 (by decide) ?_
      obtain rfl := so hf
      exact q_lret B hw hz hc0 hr hlk dX0_tens_21
/-! SecondLife$Chances.commonDivisor(JJ)J -/
def f_X0_commonDivisor_9 (n : Nat) (z : Sh) (h : Hp) : Nat → Int64 → Int64 → Int32 → Option (Int64)
  | 0, _, _, _ => none
  | i + 1, v4, v6, v8 =>
    if 130 ≤ v8 then
      some v4
    else
      if (lg_cmp v6 0) = 0 then
        some v4
      else
        (rmJ v4 v6).bind fun x3 =>
        (some (v8 + 1)).bind fun x4 =>
        (f_X0_commonDivisor_9 n z h i) v6 x3 x4
def f_X0_commonDivisor (n : Nat) (z : Sh) (h : Hp) (v0 : Int64) (v2 : Int64) : Option (Int64) :=
  f_X0_commonDivisor_9 n z h n v0 v2 0
set_option maxHeartbeats 4000000 in
theorem w_X0_commonDivisor_9 {p : Program} {l : Launch} {e : Env} {s : State} {m : MethodId} {args : Array Value} {below : List Frame} {meth : Method} {c : Code} {s0 : State} {E : Ev} {z : Sh} {h : Hp} {n : Nat} {r : Int64} (G : Gl s0 E) (B : Bd p s0 s E m c cX0_commonDivisor 11 RX0) (hz : s0.heap.size ≤ z.sz) (hc0 : s.heap.size + 0 = z.sz) (hr : meth.sig.returnType = (some .long)) (hlk : meth.locks = false) : ∀ (i : Nat), ∀ (v4 : Int64) (v6 : Int64) (v8 : Int32) (H : Heap) (locs : List Loc) (ls : Array Slot), Pw s0 s E z h H locs → lv_has ls 11 [(4, .long v4), (6, .long v6), (8, .int v8)] → f_X0_commonDivisor_9 n z h i v4 v6 v8 = some r → W p l e (rmO 0 0) s m args below meth c H locs 0 0 (Zt below s0 E z h (some (.long r)) args s 0 0) (F0 m 9 ls []) := by
  have hx := B.1
  have hb := B.2.1
  intro i
  induction i with
  | zero =>
    intro v4 v6 v8 H locs ls hw hl hf
    have hf := (f_X0_commonDivisor_9.eq_1 ..).symm.trans hf
    cases hf
  | succ i ih =>
    intro v4 v6 v8 H locs ls hw hl hf
    have hf := (f_X0_commonDivisor_9.eq_2 ..).symm.trans hf
    refine lv_iload hx hb dX0_commonDivisor_9 (lv_at hl 2 rfl) ?_
    refine lv_sipush (v := 130) hx hb dX0_commonDivisor_11 (by decide) ?_
    refine lv_icmp_ge (tgt := 45) hx hb dX0_commonDivisor_14 (by decide) (fun c1 => ?_) (fun c1 => ?_)
    · have hf := (if_pos c1).symm.trans hf
      refine lv_lload hx hb dX0_commonDivisor_45 (lv_at hl 0 rfl) ?_
      obtain rfl := so hf
      exact q_lret B hw hz hc0 hr hlk dX0_commonDivisor_47
    · have hf := (if_neg c1).symm.trans hf
      refine lv_lload hx hb dX0_commonDivisor_17 (lv_at hl 1 rfl) ?_
      refine lv_lconst (v := 0) hx hb dX0_commonDivisor_19 (by decide) ?_
      refine W.lcmp hx hb dX0_commonDivisor_20 ?_
      refine lv_if_eq (tgt := 45) hx hb dX0_commonDivisor_21 (by decide) (fun c2 => ?_) (fun c2 => ?_)
      · have hf := (if_pos c2).symm.trans hf
        refine lv_lload hx hb dX0_commonDivisor_45 (lv_at hl 0 rfl) ?_
        obtain rfl := so hf
        exact q_lret B hw hz hc0 hr hlk dX0_commonDivisor_47
      · have hf := (if_neg c2).symm.trans hf
        refine lv_lload hx hb dX0_commonDivisor_24 (lv_at hl 0 rfl) ?_
        refine lv_lload hx hb dX0_commonDivisor_26 (lv_at hl 1 rfl) ?_
        obtain ⟨x3, e, hf⟩ := ob hf
        refine q_lrem e hx hb dX0_commonDivisor_28 ?_
        refine lv_lstore (lv' := [(9, .long x3), (4, .long v4), (6, .long v6), (8, .int v8)]) hx hb dX0_commonDivisor_29 hl (by decide) rfl (fun ls hl => ?_)
        refine lv_lload hx hb dX0_commonDivisor_31 (lv_at hl 2 rfl) ?_
        refine lv_lstore (lv' := [(4, .long v6), (9, .long x3), (6, .long v6), (8, .int v8)]) hx hb dX0_commonDivisor_33 hl (by decide) rfl (fun ls hl => ?_)
        refine lv_lload hx hb dX0_commonDivisor_35 (lv_at hl 1 rfl) ?_
        refine lv_lstore (lv' := [(6, .long x3), (4, .long v6), (9, .long x3), (8, .int v8)]) hx hb dX0_commonDivisor_37 hl (by decide) rfl (fun ls hl => ?_)
        obtain ⟨x4, e, hf⟩ := ob hf
        refine lv_iinc (v := x4) (lv' := [(8, .int x4), (6, .long x3), (4, .long v6), (9, .long x3)]) hx hb dX0_commonDivisor_39 hl (k := 3) rfl (Option.some.inj e) (by decide) rfl (fun ls hl => ?_)
        refine lv_goto (tgt := 9) hx hb dX0_commonDivisor_42 (by decide) ?_
        exact ih v6 x3 x4 _ _ _ hw (lv_sub hl [2, 1, 0] rfl) hf
set_option maxHeartbeats 4000000 in
theorem c_X0_commonDivisor {l : Launch} {s0 : State} {E : Ev} (G : Gl s0 E) {n : Nat} {z : Sh} {h : Hp} {v0 : Int64} {v2 : Int64} {r : Int64} (hf : f_X0_commonDivisor n z h v0 v2 = some r) : Ct l s0 E yX0_commonDivisor cX0_commonDivisor 11 (some .long) 0 0 [.long v0, .long v2] z h h (some (.long r)) := by
  refine Ct.of G (by decide) (Nat.le_of_ble_eq_true rfl) ?_
  intro p e s m below meth c ls B hw hz hc0 hr hlk hl
  have B : Bd p s0 s E m c cX0_commonDivisor 11 RX0 := B
  have hx := B.1
  have hb := B.2.1
  have hl : lv_has ls 11 [(0, .long v0), (2, .long v2)] := hl
  unfold f_X0_commonDivisor at hf
  refine lv_lload_n hx hb dX0_commonDivisor_0 rfl (lv_at hl 0 rfl) ?_
  refine lv_lstore (lv' := [(4, .long v0), (0, .long v0), (2, .long v2)]) hx hb dX0_commonDivisor_1 hl (by decide) rfl (fun ls hl => ?_)
  refine lv_lload_n hx hb dX0_commonDivisor_3 rfl (lv_at hl 2 rfl) ?_
  refine lv_lstore (lv' := [(6, .long v2), (4, .long v0), (0, .long v0), (2, .long v2)]) hx hb dX0_commonDivisor_4 hl (by decide) rfl (fun ls hl => ?_)
  refine lv_iconst (v := 0) hx hb dX0_commonDivisor_6 (by decide) ?_
  refine lv_istore (lv' := [(8, .int 0), (6, .long v2), (4, .long v0), (0, .long v0), (2, .long v2)]) hx hb dX0_commonDivisor_7 hl (by decide) rfl (fun ls hl => ?_)
  exact w_X0_commonDivisor_9 G B hz hc0 hr hlk  n v0 v2 0 _ _ _ hw (lv_sub hl [2, 1, 0] rfl) hf
/-! SecondLife$Courses.scoreIn(J)I -/
def f_X1_scoreIn (z : Sh) (h : Hp) (v0 : Int64) : Option (Int32) :=
  (dvJ v0 16).bind fun x1 =>
  some (Int64.toInt32 x1)
set_option maxHeartbeats 4000000 in
theorem c_X1_scoreIn {l : Launch} {s0 : State} {E : Ev} (G : Gl s0 E) {z : Sh} {h : Hp} {v0 : Int64} {r : Int32} (hf : f_X1_scoreIn z h v0 = some r) : Ct l s0 E yX1_scoreIn cX1_scoreIn 2 (some .int) 0 0 [.long v0] z h h (some (.int r)) := by
  refine Ct.of G (by decide) (Nat.le_of_ble_eq_true rfl) ?_
  intro p e s m below meth c ls B hw hz hc0 hr hlk hl
  have B : Bd p s0 s E m c cX1_scoreIn 2 RX1 := B
  have hx := B.1
  have hb := B.2.1
  have hl : lv_has ls 2 [(0, .long v0)] := hl
  unfold f_X1_scoreIn at hf
  refine lv_lload_n hx hb dX1_scoreIn_0 rfl (lv_at hl 0 rfl) ?_
  refine lv_ldc2 hx hb B.2.2.2.1 (B.w tw_4_203 rfl) dX1_scoreIn_1 ?_
  obtain ⟨x1, e, hf⟩ := ob hf
  refine q_ldiv e hx hb dX1_scoreIn_4 ?_
  refine lv_l2i (v := (Int64.toInt32 x1)) hx hb dX1_scoreIn_5 rfl ?_
  obtain rfl := so hf
  exact q_iret B hw hz hc0 hr hlk dX1_scoreIn_6
/-! SecondLife$Courses.doingIn(J)I -/
def f_X1_doingIn (z : Sh) (h : Hp) (v0 : Int64) : Option (Int32) :=
  (rmJ v0 16).bind fun x1 =>
  some ((Int64.toInt32 x1) - 1)
set_option maxHeartbeats 4000000 in
theorem c_X1_doingIn {l : Launch} {s0 : State} {E : Ev} (G : Gl s0 E) {z : Sh} {h : Hp} {v0 : Int64} {r : Int32} (hf : f_X1_doingIn z h v0 = some r) : Ct l s0 E yX1_doingIn cX1_doingIn 2 (some .int) 0 0 [.long v0] z h h (some (.int r)) := by
  refine Ct.of G (by decide) (Nat.le_of_ble_eq_true rfl) ?_
  intro p e s m below meth c ls B hw hz hc0 hr hlk hl
  have B : Bd p s0 s E m c cX1_doingIn 2 RX1 := B
  have hx := B.1
  have hb := B.2.1
  have hl : lv_has ls 2 [(0, .long v0)] := hl
  unfold f_X1_doingIn at hf
  refine lv_lload_n hx hb dX1_doingIn_0 rfl (lv_at hl 0 rfl) ?_
  refine lv_ldc2 hx hb B.2.2.2.1 (B.w tw_4_203 rfl) dX1_doingIn_1 ?_
  obtain ⟨x1, e, hf⟩ := ob hf
  refine q_lrem e hx hb dX1_doingIn_4 ?_
  refine lv_l2i (v := (Int64.toInt32 x1)) hx hb dX1_doingIn_5 rfl ?_
  refine lv_iconst (v := 1) hx hb dX1_doingIn_6 (by decide) ?_
  refine lv_isub hx hb dX1_doingIn_7 ?_
  obtain rfl := so hf
  exact q_iret B hw hz hc0 hr hlk dX1_doingIn_8
/-! SecondLife$Courses.choicesIn(I)J -/
def f_X1_choicesIn_5 (n : Nat) (z : Sh) (h : Hp) : Nat → Nat → Int32 → Int64 → Int32 → Option (Int64)
  | 0, _, _, _, _ => none
  | i + 1, v0, v1, v2, v4 =>
    if v1 ≤ v4 then
      some v2
    else
      (gR z h 1 v0 0).bind fun a2 =>
      (gR z h 10 a2 3).bind fun a3 =>
      (gI z h 8 a3 1).bind fun x4 =>
      (some (v2 * (Int32.toInt64 x4))).bind fun x5 =>
      (some (v4 + 1)).bind fun x6 =>
      (f_X1_choicesIn_5 n z h i) v0 v1 x5 x6
def f_X1_choicesIn (n : Nat) (z : Sh) (h : Hp) (v0 : Nat) (v1 : Int32) : Option (Int64) :=
  if z.K v0 = 1 then
    f_X1_choicesIn_5 n z h n v0 v1 1 0
  else none
theorem k_X1_choicesIn {n : Nat} {z : Sh} {h : Hp} {v0 : Nat} {v1 : Int32} {w : Int64} (hf : f_X1_choicesIn n z h v0 v1 = some w) : z.K v0 = 1 := by
  unfold f_X1_choicesIn at hf
  exact (if_some hf).1
set_option maxHeartbeats 4000000 in
theorem w_X1_choicesIn_5 {p : Program} {l : Launch} {e : Env} {s : State} {m : MethodId} {args : Array Value} {below : List Frame} {meth : Method} {c : Code} {s0 : State} {E : Ev} {z : Sh} {h : Hp} {n : Nat} {r : Int64} (G : Gl s0 E) (B : Bd p s0 s E m c cX1_choicesIn 5 RX1) (hz : s0.heap.size ≤ z.sz) (hc0 : s.heap.size + 0 = z.sz) (hr : meth.sig.returnType = (some .long)) (hlk : meth.locks = false) : ∀ (i : Nat), ∀ (v0 : Nat) (v1 : Int32) (v2 : Int64) (v4 : Int32) (H : Heap) (locs : List Loc) (ls : Array Slot), Pw s0 s E z h H locs → lv_has ls 5 [(0, .ref v0), (1, .int v1), (2, .long v2), (4, .int v4)] → f_X1_choicesIn_5 n z h i v0 v1 v2 v4 = some r → W p l e (rmO 0 0) s m args below meth c H locs 0 0 (Zt below s0 E z h (some (.long r)) args s 0 0) (F0 m 5 ls []) := by
  have hx := B.1
  have hb := B.2.1
  intro i
  induction i with
  | zero =>
    intro v0 v1 v2 v4 H locs ls hw hl hf
    have hf := (f_X1_choicesIn_5.eq_1 ..).symm.trans hf
    cases hf
  | succ i ih =>
    intro v0 v1 v2 v4 H locs ls hw hl hf
    have hf := (f_X1_choicesIn_5.eq_2 ..).symm.trans hf
    refine lv_iload hx hb dX1_choicesIn_5 (lv_at hl 3 rfl) ?_
    refine lv_iload_n hx hb dX1_choicesIn_7 rfl (lv_at hl 1 rfl) ?_
    refine lv_icmp_ge (tgt := 31) hx hb dX1_choicesIn_8 (by decide) (fun c1 => ?_) (fun c1 => ?_)
    · have hf := (if_pos c1).symm.trans hf
      refine lv_lload_n hx hb dX1_choicesIn_31 rfl (lv_at hl 2 rfl) ?_
      obtain rfl := so hf
      exact q_lret B hw hz hc0 hr hlk dX1_choicesIn_32
    · have hf := (if_neg c1).symm.trans hf
      refine lv_lload_n hx hb dX1_choicesIn_11 rfl (lv_at hl 2 rfl) ?_
      refine lv_aload_n hx hb dX1_choicesIn_12 rfl (lv_at hl 0 rfl) ?_
      obtain ⟨a2, e, hf⟩ := ob hf
      refine q_getR e B hw fd_1_0.1 fd_1_0.2.1 fd_1_0.2.2.1 fd_1_0.2.2.2.1 fd_1_0.2.2.2.2 rfl tw_2_43 dX1_choicesIn_13 ?_
      obtain ⟨a3, e, hf⟩ := ob hf
      refine q_getRN e B hw fd_10_3.1 fd_10_3.2.1 fd_10_3.2.2.1 fd_10_3.2.2.2.1 fd_10_3.2.2.2.2 rfl tw_1_232 dX1_choicesIn_16 ?_
      obtain ⟨x4, e, hf⟩ := ob hf
      refine q_getIN e B hw fd_8_1.1 fd_8_1.2.1 fd_8_1.2.2.1 fd_8_1.2.2.2.1 fd_8_1.2.2.2.2 rfl tw_1_58 dX1_choicesIn_19 ?_
      refine lv_i2l (v := (Int32.toInt64 x4)) hx hb dX1_choicesIn_22 rfl ?_
      refine lv_lmul hx hb dX1_choicesIn_23 ?_
      obtain ⟨x5, e, hf⟩ := ob hf
      refine q_nmJ e ?_
      refine lv_lstore_n (lv' := [(2, .long x5), (0, .ref v0), (1, .int v1), (4, .int v4)]) hx hb dX1_choicesIn_24 rfl hl (by decide) rfl (fun ls hl => ?_)
      obtain ⟨x6, e, hf⟩ := ob hf
      refine lv_iinc (v := x6) (lv' := [(4, .int x6), (2, .long x5), (0, .ref v0), (1, .int v1)]) hx hb dX1_choicesIn_25 hl (k := 3) rfl (Option.some.inj e) (by decide) rfl (fun ls hl => ?_)
      refine lv_goto (tgt := 5) hx hb dX1_choicesIn_28 (by decide) ?_
      exact ih v0 v1 x5 x6 _ _ _ hw (lv_sub hl [2, 3, 1, 0] rfl) hf
set_option maxHeartbeats 4000000 in
theorem c_X1_choicesIn {l : Launch} {s0 : State} {E : Ev} (G : Gl s0 E) {n : Nat} {z : Sh} {h : Hp} {v0 : Nat} {v1 : Int32} {r : Int64} (hf : f_X1_choicesIn n z h v0 v1 = some r) : Ct l s0 E yX1_choicesIn cX1_choicesIn 5 (some .long) 0 0 [.ref v0, .int v1] z h h (some (.long r)) := by
  refine Ct.of G (by decide) (Nat.le_of_ble_eq_true rfl) ?_
  intro p e s m below meth c ls B hw hz hc0 hr hlk hl
  have B : Bd p s0 s E m c cX1_choicesIn 5 RX1 := B
  have hx := B.1
  have hb := B.2.1
  have hl : lv_has ls 5 [(0, .ref v0), (1, .int v1)] := hl
  unfold f_X1_choicesIn at hf
  obtain ⟨_, hf⟩ := if_some hf
  refine lv_lconst (v := 1) hx hb dX1_choicesIn_0 (by decide) ?_
  refine lv_lstore_n (lv' := [(2, .long 1), (0, .ref v0), (1, .int v1)]) hx hb dX1_choicesIn_1 rfl hl (by decide) rfl (fun ls hl => ?_)
  refine lv_iconst (v := 0) hx hb dX1_choicesIn_2 (by decide) ?_
  refine lv_istore (lv' := [(4, .int 0), (2, .long 1), (0, .ref v0), (1, .int v1)]) hx hb dX1_choicesIn_3 hl (by decide) rfl (fun ls hl => ?_)
  exact w_X1_choicesIn_5 G B hz hc0 hr hlk  n v0 v1 1 0 _ _ _ hw (lv_sub hl [2, 3, 1, 0] rfl) hf
/-! SecondLife$Deeds.<init>(LSecondLife$Reckoner;)V -/
def f_X2_init (z : Sh) (h : Hp) (v0 : Nat) (v1 : Nat) : Option (Hp × Sh) :=
  if z.K v0 = 2 then
    gd2 z <|
    (pI z h 2 v0 1 0).bind fun h1 =>
    (pI z h1 2 v0 2 0).bind fun h2 =>
    (pR z h2 2 v0 0 (some v1)).bind fun h3 =>
    some (h3, z)
  else none
theorem k_X2_init {z : Sh} {h : Hp} {v0 : Nat} {v1 : Nat} {w : Hp × Sh} (hf : f_X2_init z h v0 v1 = some w) : z.K v0 = 2 := by
  unfold f_X2_init at hf
  exact (if_some hf).1
theorem mo_X2_init {z : Sh} {h : Hp} {v0 : Nat} {v1 : Nat} {h' : Hp} {zE : Sh} (hf : f_X2_init z h v0 v1 = some (h', zE)) : z.sz ≤ zE.sz ∧ z.sl ≤ zE.sl := by
  unfold f_X2_init at hf
  exact (gd2_some (if_some hf).2).1
set_option maxHeartbeats 4000000 in
theorem c_X2_init {l : Launch} {s0 : State} {E : Ev} (G : Gl s0 E) {z : Sh} {h : Hp} {v0 : Nat} {v1 : Nat} {h' : Hp} {zE : Sh} (hf : f_X2_init z h v0 v1 = some (h', zE)) : Ca l s0 E yX2_init cX2_init 2 none 1 24 [.ref v0, .ref v1] z zE h h' (none) := by
  refine Ca.of G (by decide +kernel) (Nat.le_of_ble_eq_true rfl) (mo_X2_init hf) ?_
  intro p e s m below meth c ls B hw hM hr hlk hnm0 hl
  have B : Bd p s0 s E m c cX2_init 2 RX2 := B
  have hx := B.1
  have hb := B.2.1
  have hl : lv_has ls 2 [(0, .ref v0), (1, .ref v1)] := hl
  have hin : meth.name = "<init>" := hnm0
  unfold f_X2_init at hf
  obtain ⟨_, hf⟩ := if_some hf
  obtain ⟨_, hf⟩ := gd2_some hf
  refine lv_aload_n hx hb dX2_init_0 rfl (lv_at hl 0 rfl) ?_
  refine q_obj B hl.1 tw_1_205 tw_1_29 tw_1_30 (Nat.le_of_ble_eq_true rfl) (Nat.le_of_ble_eq_true rfl) dX2_init_1 ?_
  refine lv_aload_n hx hb dX2_init_4 rfl (lv_at hl 0 rfl) ?_
  refine lv_iconst (v := 0) hx hb dX2_init_5 (by decide) ?_
  obtain ⟨h1, e, hf⟩ := ob hf
  refine q_putI e B hw fd_2_1.1 fd_2_1.2.1 fd_2_1.2.2.1 fd_2_1.2.2.2.1 fd_2_1.2.2.2.2 rfl rfl (tyX2_ok 1 (by decide)) tyX2 tyX2_ok nmX2 tw_1_207 dX2_init_6 (fun H locs hw => ?_)
  refine lv_aload_n hx hb dX2_init_9 rfl (lv_at hl 0 rfl) ?_
  refine lv_iconst (v := 0) hx hb dX2_init_10 (by decide) ?_
  obtain ⟨h2, e, hf⟩ := ob hf
  refine q_putI e B hw fd_2_2.1 fd_2_2.2.1 fd_2_2.2.2.1 fd_2_2.2.2.2.1 fd_2_2.2.2.2.2 rfl rfl (tyX2_ok 2 (by decide)) tyX2 tyX2_ok nmX2 tw_1_209 dX2_init_11 (fun H locs hw => ?_)
  refine lv_aload_n hx hb dX2_init_14 rfl (lv_at hl 0 rfl) ?_
  refine lv_aload_n hx hb dX2_init_15 rfl (lv_at hl 1 rfl) ?_
  obtain ⟨h3, e, hf⟩ := ob hf
  refine q_putRF e B hw hin fd_2_0.1 fd_2_0.2.1 fd_2_0.2.2.1 fd_2_0.2.2.2.1 fd_2_0.2.2.2.2 rfl rfl rfl (tyX2_ok 0 (by decide)) (Or.inl ⟨_, rfl⟩) tyX2 tyX2_ok nmX2 tw_1_206 dX2_init_16 (fun H locs hw => ?_)
  obtain ⟨rfl, rfl⟩ := so2 hf
  exact q_vret B hw hM.hz hM.hc0 hr hlk dX2_init_19
/-! SecondLife$Deeds.nextDrawn()I -/
def f_X2_nextDrawn (z : Sh) (h : Hp) (v0 : Nat) : Option (Int32 × Hp) :=
  if z.K v0 = 2 then
    (gI z h 2 v0 2).bind fun x1 =>
    (pI z h 2 v0 2 ((1103515245 * x1) + 12345)).bind fun h2 =>
    (gI z h2 2 v0 2).bind fun x3 =>
    some (((Int32.toUInt32 x3 >>> (Int32.toUInt32 16 &&& Int32.toUInt32 31)).toInt32), h2)
  else none
theorem k_X2_nextDrawn {z : Sh} {h : Hp} {v0 : Nat} {w : Int32 × Hp} (hf : f_X2_nextDrawn z h v0 = some w) : z.K v0 = 2 := by
  unfold f_X2_nextDrawn at hf
  exact (if_some hf).1
set_option maxHeartbeats 4000000 in
theorem c_X2_nextDrawn {l : Launch} {s0 : State} {E : Ev} (G : Gl s0 E) {z : Sh} {h : Hp} {v0 : Nat} {r : Int32} {h' : Hp} (hf : f_X2_nextDrawn z h v0 = some (r, h')) : Ct l s0 E yX2_nextDrawn cX2_nextDrawn 1 (some .int) 0 0 [.ref v0] z h h' (some (.int r)) := by
  refine Ct.of G (by decide) (Nat.le_of_ble_eq_true rfl) ?_
  intro p e s m below meth c ls B hw hz hc0 hr hlk hl
  have B : Bd p s0 s E m c cX2_nextDrawn 1 RX2 := B
  have hx := B.1
  have hb := B.2.1
  have hl : lv_has ls 1 [(0, .ref v0)] := hl
  unfold f_X2_nextDrawn at hf
  obtain ⟨_, hf⟩ := if_some hf
  refine lv_aload_n hx hb dX2_nextDrawn_0 rfl (lv_at hl 0 rfl) ?_
  refine lv_ldc hx hb B.2.2.2.1 (B.w tw_4_152 rfl) dX2_nextDrawn_1 ?_
  refine lv_aload_n hx hb dX2_nextDrawn_3 rfl (lv_at hl 0 rfl) ?_
  obtain ⟨x1, e, hf⟩ := ob hf
  refine q_getI e B hw fd_2_2.1 fd_2_2.2.1 fd_2_2.2.2.1 fd_2_2.2.2.2.1 fd_2_2.2.2.2.2 rfl tw_1_209 dX2_nextDrawn_4 ?_
  refine lv_imul hx hb dX2_nextDrawn_7 ?_
  refine lv_sipush (v := 12345) hx hb dX2_nextDrawn_8 (by decide) ?_
  refine lv_iadd hx hb dX2_nextDrawn_11 ?_
  obtain ⟨h2, e, hf⟩ := ob hf
  refine q_putI e B hw fd_2_2.1 fd_2_2.2.1 fd_2_2.2.2.1 fd_2_2.2.2.2.1 fd_2_2.2.2.2.2 rfl rfl (tyX2_ok 2 (by decide)) tyX2 tyX2_ok nmX2 tw_1_209 dX2_nextDrawn_12 (fun H locs hw => ?_)
  refine lv_aload_n hx hb dX2_nextDrawn_15 rfl (lv_at hl 0 rfl) ?_
  obtain ⟨x3, e, hf⟩ := ob hf
  refine q_getI e B hw fd_2_2.1 fd_2_2.2.1 fd_2_2.2.2.1 fd_2_2.2.2.2.1 fd_2_2.2.2.2.2 rfl tw_1_209 dX2_nextDrawn_16 ?_
  refine lv_bipush (v := 16) hx hb dX2_nextDrawn_19 (by decide) ?_
  refine lv_iushr (v := (Int32.toUInt32 x3 >>> (Int32.toUInt32 16 &&& Int32.toUInt32 31)).toInt32) hx hb dX2_nextDrawn_21 rfl ?_
  obtain ⟨rfl, rfl⟩ := so2 hf
  exact q_iret B hw hz hc0 hr hlk dX2_nextDrawn_22
