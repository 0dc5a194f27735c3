/-! SecondLife$Memo.find(II)J -/
def f_X3_find (z : Sh) (h : Hp) (v0 : Nat) (v1 : Int32) (v2 : Int32) : Option (Int64) :=
  if z.K v0 = 3 then
    if v1 < 0 then
      some ((-1) : Int64)
    else
      (gR z h 3 v0 0).bind fun a2 =>
      (aL z a2).bind fun x3 =>
      if v1 < x3 then
        (gR z h 3 v0 0).bind fun a5 =>
        (ldJ z h a5 v1).bind fun x6 =>
        (rmI v2 65536).bind fun x7 =>
        if (lg_cmp ((Int64.toUInt64 x6 >>> ((Int32.toInt64 48).toUInt64 &&& Int64.toUInt64 63)).toInt64) (Int32.toInt64 x7)) = 0 then
          some (x6 &&& 281474976710655)
        else
          some ((-1) : Int64)
      else
        some ((-1) : Int64)
  else none
theorem k_X3_find {z : Sh} {h : Hp} {v0 : Nat} {v1 : Int32} {v2 : Int32} {w : Int64} (hf : f_X3_find z h v0 v1 v2 = some w) : z.K v0 = 3 := by
  unfold f_X3_find at hf
  exact (if_some hf).1
set_option maxHeartbeats 4000000 in
theorem c_X3_find {l : Launch} {s0 : State} {E : Ev} (G : Gl s0 E) {z : Sh} {h : Hp} {v0 : Nat} {v1 : Int32} {v2 : Int32} {r : Int64} (hf : f_X3_find z h v0 v1 v2 = some r) : Ct l s0 E yX3_find cX3_find 5 (some .long) 0 0 [.ref v0, .int v1, .int v2] z h h (some (.long r)) := by
  refine Ct.of G (by decide) (Nat.le_of_ble_eq_true rfl) ?_
  intro p e s m below meth c ls B hw hz hc0 hr hlk hl
  have B : Bd p s0 s E m c cX3_find 5 RX3 := B
  have hx := B.1
  have hb := B.2.1
  have hl : lv_has ls 5 [(0, .ref v0), (1, .int v1), (2, .int v2)] := hl
  unfold f_X3_find at hf
  obtain ⟨_, hf⟩ := if_some hf
  refine lv_iload_n hx hb dX3_find_0 rfl (lv_at hl 1 rfl) ?_
  refine lv_if_lt (tgt := 13) hx hb dX3_find_1 (by decide) (fun c1 => ?_) (fun c1 => ?_)
  · have hf := (if_pos c1).symm.trans hf
    refine lv_ldc2 hx hb B.2.2.2.1 (B.w tw_4_178 rfl) dX3_find_13 ?_
    obtain rfl := so hf
    exact q_lret B hw hz hc0 hr hlk dX3_find_16
  · have hf := (if_neg c1).symm.trans hf
    refine lv_iload_n hx hb dX3_find_4 rfl (lv_at hl 1 rfl) ?_
    refine lv_aload_n hx hb dX3_find_5 rfl (lv_at hl 0 rfl) ?_
    obtain ⟨a2, e, hf⟩ := ob hf
    refine q_getR e B hw fd_3_0.1 fd_3_0.2.1 fd_3_0.2.2.1 fd_3_0.2.2.2.1 fd_3_0.2.2.2.2 rfl tw_2_38 dX3_find_6 ?_
    obtain ⟨x3, e, hf⟩ := ob hf
    refine q_len e B hw dX3_find_9 ?_
    refine lv_icmp_lt (tgt := 17) hx hb dX3_find_10 (by decide) (fun c4 => ?_) (fun c4 => ?_)
    · have hf := (if_pos c4).symm.trans hf
      refine lv_aload_n hx hb dX3_find_17 rfl (lv_at hl 0 rfl) ?_
      obtain ⟨a5, e, hf⟩ := ob hf
      refine q_getR e B hw fd_3_0.1 fd_3_0.2.1 fd_3_0.2.2.1 fd_3_0.2.2.2.1 fd_3_0.2.2.2.2 rfl tw_2_38 dX3_find_18 ?_
      refine lv_iload_n hx hb dX3_find_21 rfl (lv_at hl 1 rfl) ?_
      obtain ⟨x6, e, hf⟩ := ob hf
      refine q_ldJ e B hw dX3_find_22 ?_
      refine lv_lstore_n (lv' := [(3, .long x6), (0, .ref v0), (1, .int v1), (2, .int v2)]) hx hb dX3_find_23 rfl hl (by decide) rfl (fun ls hl => ?_)
      refine lv_lload_n hx hb dX3_find_24 rfl (lv_at hl 0 rfl) ?_
      refine lv_bipush (v := 48) hx hb dX3_find_25 (by decide) ?_
      refine lv_lushr (v := ((Int64.toUInt64 x6 >>> ((Int32.toInt64 48).toUInt64 &&& Int64.toUInt64 63)).toInt64)) hx hb dX3_find_27 rfl ?_
      refine lv_iload_n hx hb dX3_find_28 rfl (lv_at hl 3 rfl) ?_
      refine lv_ldc hx hb B.2.2.2.1 (B.w tw_4_179 rfl) dX3_find_29 ?_
      obtain ⟨x7, e, hf⟩ := ob hf
      refine q_irem e hx hb dX3_find_31 ?_
      refine lv_i2l (v := (Int32.toInt64 x7)) hx hb dX3_find_32 rfl ?_
      refine W.lcmp hx hb dX3_find_33 ?_
      refine lv_if_ne (tgt := 45) hx hb dX3_find_34 (by decide) (fun c8 => ?_) (fun c8 => ?_)
      · have hf := (if_neg c8).symm.trans hf
        refine lv_ldc2 hx hb B.2.2.2.1 (B.w tw_4_178 rfl) dX3_find_45 ?_
        obtain rfl := so hf
        exact q_lret B hw hz hc0 hr hlk dX3_find_48
      · have hf := (if_pos c8).symm.trans hf
        refine lv_lload_n hx hb dX3_find_37 rfl (lv_at hl 0 rfl) ?_
        refine lv_ldc2 hx hb B.2.2.2.1 (B.w tw_4_180 rfl) dX3_find_38 ?_
        refine lv_land hx hb dX3_find_41 ?_
        refine lv_goto (tgt := 48) hx hb dX3_find_42 (by decide) ?_
        obtain rfl := so hf
        exact q_lret B hw hz hc0 hr hlk dX3_find_48
    · have hf := (if_neg c4).symm.trans hf
      refine lv_ldc2 hx hb B.2.2.2.1 (B.w tw_4_178 rfl) dX3_find_13 ?_
      obtain rfl := so hf
      exact q_lret B hw hz hc0 hr hlk dX3_find_16
/-! SecondLife$Memo.keep(IIJ)V -/
def f_X3_keep (z : Sh) (h : Hp) (v0 : Nat) (v1 : Int32) (v2 : Int32) (v3 : Int64) : Option (Hp) :=
  if z.K v0 = 3 then
    if v1 < 0 then
      some h
    else
      (gR z h 3 v0 0).bind fun a2 =>
      (aL z a2).bind fun x3 =>
      if x3 ≤ v1 then
        some h
      else
        (gR z h 3 v0 0).bind fun a5 =>
        (rmI v2 65536).bind fun x6 =>
        (stJ z h a5 v1 (((Int32.toInt64 x6) <<< (Int32.toInt64 48 &&& 63)) ||| (v3 &&& 281474976710655))).bind fun h7 =>
        some h7
  else none
theorem k_X3_keep {z : Sh} {h : Hp} {v0 : Nat} {v1 : Int32} {v2 : Int32} {v3 : Int64} {w : Hp} (hf : f_X3_keep z h v0 v1 v2 v3 = some w) : z.K v0 = 3 := by
  unfold f_X3_keep at hf
  exact (if_some hf).1
set_option maxHeartbeats 4000000 in
theorem c_X3_keep {l : Launch} {s0 : State} {E : Ev} (G : Gl s0 E) {z : Sh} {h : Hp} {v0 : Nat} {v1 : Int32} {v2 : Int32} {v3 : Int64} {h' : Hp} (hf : f_X3_keep z h v0 v1 v2 v3 = some h') : Ct l s0 E yX3_keep cX3_keep 5 none 0 0 [.ref v0, .int v1, .int v2, .long v3] z h h' (none) := by
  refine Ct.of G (by decide) (Nat.le_of_ble_eq_true rfl) ?_
  intro p e s m below meth c ls B hw hz hc0 hr hlk hl
  have B : Bd p s0 s E m c cX3_keep 5 RX3 := B
  have hx := B.1
  have hb := B.2.1
  have hl : lv_has ls 5 [(0, .ref v0), (1, .int v1), (2, .int v2), (3, .long v3)] := hl
  unfold f_X3_keep at hf
  obtain ⟨_, hf⟩ := if_some hf
  refine lv_iload_n hx hb dX3_keep_0 rfl (lv_at hl 1 rfl) ?_
  refine lv_if_lt (tgt := 33) hx hb dX3_keep_1 (by decide) (fun c1 => ?_) (fun c1 => ?_)
  · have hf := (if_pos c1).symm.trans hf
    obtain rfl := so hf
    exact q_vret B hw hz hc0 hr hlk dX3_keep_33
  · have hf := (if_neg c1).symm.trans hf
    refine lv_iload_n hx hb dX3_keep_4 rfl (lv_at hl 1 rfl) ?_
    refine lv_aload_n hx hb dX3_keep_5 rfl (lv_at hl 0 rfl) ?_
    obtain ⟨a2, e, hf⟩ := ob hf
    refine q_getR e B hw fd_3_0.1 fd_3_0.2.1 fd_3_0.2.2.1 fd_3_0.2.2.2.1 fd_3_0.2.2.2.2 rfl tw_2_38 dX3_keep_6 ?_
    obtain ⟨x3, e, hf⟩ := ob hf
    refine q_len e B hw dX3_keep_9 ?_
    refine lv_icmp_ge (tgt := 33) hx hb dX3_keep_10 (by decide) (fun c4 => ?_) (fun c4 => ?_)
    · have hf := (if_pos c4).symm.trans hf
      obtain rfl := so hf
      exact q_vret B hw hz hc0 hr hlk dX3_keep_33
    · have hf := (if_neg c4).symm.trans hf
      refine lv_aload_n hx hb dX3_keep_13 rfl (lv_at hl 0 rfl) ?_
      obtain ⟨a5, e, hf⟩ := ob hf
      refine q_getR e B hw fd_3_0.1 fd_3_0.2.1 fd_3_0.2.2.1 fd_3_0.2.2.2.1 fd_3_0.2.2.2.2 rfl tw_2_38 dX3_keep_14 ?_
      refine lv_iload_n hx hb dX3_keep_17 rfl (lv_at hl 1 rfl) ?_
      refine lv_iload_n hx hb dX3_keep_18 rfl (lv_at hl 2 rfl) ?_
      refine lv_ldc hx hb B.2.2.2.1 (B.w tw_4_179 rfl) dX3_keep_19 ?_
      obtain ⟨x6, e, hf⟩ := ob hf
      refine q_irem e hx hb dX3_keep_21 ?_
      refine lv_i2l (v := (Int32.toInt64 x6)) hx hb dX3_keep_22 rfl ?_
      refine lv_bipush (v := 48) hx hb dX3_keep_23 (by decide) ?_
      refine lv_lshl (v := ((Int32.toInt64 x6) <<< (Int32.toInt64 48 &&& 63))) hx hb dX3_keep_25 rfl ?_
      refine lv_lload_n hx hb dX3_keep_26 rfl (lv_at hl 3 rfl) ?_
      refine lv_ldc2 hx hb B.2.2.2.1 (B.w tw_4_180 rfl) dX3_keep_27 ?_
      refine lv_land hx hb dX3_keep_30 ?_
      refine lv_lor hx hb dX3_keep_31 ?_
      obtain ⟨h7, e, hf⟩ := ob hf
      refine q_stJ e B hw dX3_keep_32 (fun H locs hw => ?_)
      obtain rfl := so hf
      exact q_vret B hw hz hc0 hr hlk dX3_keep_33
/-! SecondLife$Past.forget()V -/
def f_X4_forget (z : Sh) (h : Hp) (v0 : Nat) : Option (Hp) :=
  if z.K v0 = 4 then
    (pI z h 4 v0 2 0).bind fun h1 =>
    some h1
  else none
theorem k_X4_forget {z : Sh} {h : Hp} {v0 : Nat} {w : Hp} (hf : f_X4_forget z h v0 = some w) : z.K v0 = 4 := by
  unfold f_X4_forget at hf
  exact (if_some hf).1
set_option maxHeartbeats 4000000 in
theorem c_X4_forget {l : Launch} {s0 : State} {E : Ev} (G : Gl s0 E) {z : Sh} {h : Hp} {v0 : Nat} {h' : Hp} (hf : f_X4_forget z h v0 = some h') : Ct l s0 E yX4_forget cX4_forget 1 none 0 0 [.ref v0] z h h' (none) := by
  refine Ct.of G (by decide) (Nat.le_of_ble_eq_true rfl) ?_
  intro p e s m below meth c ls B hw hz hc0 hr hlk hl
  have B : Bd p s0 s E m c cX4_forget 1 RX4 := B
  have hx := B.1
  have hb := B.2.1
  have hl : lv_has ls 1 [(0, .ref v0)] := hl
  unfold f_X4_forget at hf
  obtain ⟨_, hf⟩ := if_some hf
  refine lv_aload_n hx hb dX4_forget_0 rfl (lv_at hl 0 rfl) ?_
  refine lv_iconst (v := 0) hx hb dX4_forget_1 (by decide) ?_
  obtain ⟨h1, e, hf⟩ := ob hf
  refine q_putI e B hw fd_4_2.1 fd_4_2.2.1 fd_4_2.2.2.1 fd_4_2.2.2.2.1 fd_4_2.2.2.2.2 rfl rfl (tyX4_ok 2 (by decide)) tyX4 tyX4_ok nmX4 tw_1_174 dX4_forget_2 (fun H locs hw => ?_)
  obtain rfl := so hf
  exact q_vret B hw hz hc0 hr hlk dX4_forget_5
/-! SecondLife$People.<init>()V -/
def f_X5_init (z : Sh) (h : Hp) (v0 : Nat) : Option (Hp × Sh) :=
  if z.K v0 = 5 then
    gd2 z <|
    (nwA z h 14 54).bind fun (a1, h2, z3) =>
    gd2 z3 <|
    (pR z3 h2 5 v0 0 (some a1)).bind fun h4 =>
    (pI z3 h4 5 v0 1 0).bind fun h5 =>
    (pI z3 h5 5 v0 2 0).bind fun h6 =>
    some (h6, z3)
  else none
theorem k_X5_init {z : Sh} {h : Hp} {v0 : Nat} {w : Hp × Sh} (hf : f_X5_init z h v0 = some w) : z.K v0 = 5 := by
  unfold f_X5_init at hf
  exact (if_some hf).1
theorem mo_X5_init {z : Sh} {h : Hp} {v0 : Nat} {h' : Hp} {zE : Sh} (hf : f_X5_init z h v0 = some (h', zE)) : z.sz ≤ zE.sz ∧ z.sl ≤ zE.sl := by
  unfold f_X5_init at hf
  exact (gd2_some (if_some hf).2).1
set_option maxHeartbeats 4000000 in
theorem c_X5_init {l : Launch} {s0 : State} {E : Ev} (G : Gl s0 E) {z : Sh} {h : Hp} {v0 : Nat} {h' : Hp} {zE : Sh} (hf : f_X5_init z h v0 = some (h', zE)) : Ca l s0 E yX5_init cX5_init 1 none 1 24 [.ref v0] z zE h h' (none) := by
  refine Ca.of G (by decide +kernel) (Nat.le_of_ble_eq_true rfl) (mo_X5_init hf) ?_
  intro p e s m below meth c ls B hw hM hr hlk hnm0 hl
  have B : Bd p s0 s E m c cX5_init 1 RX5 := B
  have hx := B.1
  have hb := B.2.1
  have hl : lv_has ls 1 [(0, .ref v0)] := hl
  have hin : meth.name = "<init>" := hnm0
  unfold f_X5_init at hf
  obtain ⟨_, hf⟩ := if_some hf
  obtain ⟨_, hf⟩ := gd2_some hf
  refine lv_aload_n hx hb dX5_init_0 rfl (lv_at hl 0 rfl) ?_
  refine q_obj B hl.1 tw_1_149 tw_1_29 tw_1_30 (Nat.le_of_ble_eq_true rfl) (Nat.le_of_ble_eq_true rfl) dX5_init_1 ?_
  refine lv_aload_n hx hb dX5_init_4 rfl (lv_at hl 0 rfl) ?_
  refine lv_bipush (v := 54) hx hb dX5_init_5 (by decide) ?_
  obtain ⟨⟨a1, h2, z3⟩, e, hf⟩ := ob hf
  obtain ⟨hg, hf⟩ := gd2_some hf
  refine q_newA (t0 := 1) e hg B hw hM (by decide) rfl rfl rfl (cfn_14 E _ _) arn_14 tw_1_102 dX5_init_7 (fun H locs hw hM => ?_)
  obtain ⟨h4, e, hf⟩ := ob hf
  refine q_putRF e B hw hin fd_5_0.1 fd_5_0.2.1 fd_5_0.2.2.1 fd_5_0.2.2.2.1 fd_5_0.2.2.2.2 rfl rfl rfl (tyX5_ok 0 (by decide)) (Or.inr ⟨_, rfl⟩) tyX5 tyX5_ok nmX5 tw_1_150 dX5_init_9 (fun H locs hw => ?_)
  refine lv_aload_n hx hb dX5_init_12 rfl (lv_at hl 0 rfl) ?_
  refine lv_iconst (v := 0) hx hb dX5_init_13 (by decide) ?_
  obtain ⟨h5, e, hf⟩ := ob hf
  refine q_putI e B hw fd_5_1.1 fd_5_1.2.1 fd_5_1.2.2.1 fd_5_1.2.2.2.1 fd_5_1.2.2.2.2 rfl rfl (tyX5_ok 1 (by decide)) tyX5 tyX5_ok nmX5 tw_1_151 dX5_init_14 (fun H locs hw => ?_)
  refine lv_aload_n hx hb dX5_init_17 rfl (lv_at hl 0 rfl) ?_
  refine lv_iconst (v := 0) hx hb dX5_init_18 (by decide) ?_
  obtain ⟨h6, e, hf⟩ := ob hf
  refine q_putI e B hw fd_5_2.1 fd_5_2.2.1 fd_5_2.2.2.1 fd_5_2.2.2.2.1 fd_5_2.2.2.2.2 rfl rfl (tyX5_ok 2 (by decide)) tyX5 tyX5_ok nmX5 tw_1_153 dX5_init_19 (fun H locs hw => ?_)
  obtain ⟨rfl, rfl⟩ := so2 hf
  exact q_vret B hw hM.hz hM.hc0 hr hlk dX5_init_22
/-! SecondLife$People.copy(LSecondLife$People;)V -/
def f_X5_copy (z : Sh) (h : Hp) (v0 : Nat) (v1 : Nat) : Option (Hp) :=
  if z.K v0 = 5 then
    (gR z h 5 v1 0).bind fun a1 =>
    (gR z h 5 v0 0).bind fun a2 =>
    (gR z h 5 v0 0).bind fun a3 =>
    (aL z a3).bind fun x4 =>
    (cpI z h a1 0 a2 0 x4).bind fun h5 =>
    (gI z h5 5 v1 1).bind fun x6 =>
    (pI z h5 5 v0 1 x6).bind fun h7 =>
    (gI z h7 5 v1 2).bind fun x8 =>
    (pI z h7 5 v0 2 x8).bind fun h9 =>
    some h9
  else none
theorem k_X5_copy {z : Sh} {h : Hp} {v0 : Nat} {v1 : Nat} {w : Hp} (hf : f_X5_copy z h v0 v1 = some w) : z.K v0 = 5 := by
  unfold f_X5_copy at hf
  exact (if_some hf).1
set_option maxHeartbeats 4000000 in
theorem c_X5_copy {l : Launch} {s0 : State} {E : Ev} (G : Gl s0 E) {z : Sh} {h : Hp} {v0 : Nat} {v1 : Nat} {h' : Hp} (hf : f_X5_copy z h v0 v1 = some h') : Ct l s0 E yX5_copy cX5_copy 2 none 1 60 [.ref v0, .ref v1] z h h' (none) := by
  refine Ct.of G (by decide) (Nat.le_of_ble_eq_true rfl) ?_
  intro p e s m below meth c ls B hw hz hc0 hr hlk hl
  have B : Bd p s0 s E m c cX5_copy 2 RX5 := B
  have hx := B.1
  have hb := B.2.1
  have hl : lv_has ls 2 [(0, .ref v0), (1, .ref v1)] := hl
  unfold f_X5_copy at hf
  obtain ⟨_, hf⟩ := if_some hf
  refine lv_aload_n hx hb dX5_copy_0 rfl (lv_at hl 1 rfl) ?_
  obtain ⟨a1, e, hf⟩ := ob hf
  refine q_getR e B hw fd_5_0.1 fd_5_0.2.1 fd_5_0.2.2.1 fd_5_0.2.2.2.1 fd_5_0.2.2.2.2 rfl tw_1_150 dX5_copy_1 ?_
  refine lv_iconst (v := 0) hx hb dX5_copy_4 (by decide) ?_
  refine lv_aload_n hx hb dX5_copy_5 rfl (lv_at hl 0 rfl) ?_
  obtain ⟨a2, e, hf⟩ := ob hf
  refine q_getR e B hw fd_5_0.1 fd_5_0.2.1 fd_5_0.2.2.1 fd_5_0.2.2.2.1 fd_5_0.2.2.2.2 rfl tw_1_150 dX5_copy_6 ?_
  refine lv_iconst (v := 0) hx hb dX5_copy_9 (by decide) ?_
  refine lv_aload_n hx hb dX5_copy_10 rfl (lv_at hl 0 rfl) ?_
  obtain ⟨a3, e, hf⟩ := ob hf
  refine q_getR e B hw fd_5_0.1 fd_5_0.2.1 fd_5_0.2.2.1 fd_5_0.2.2.2.1 fd_5_0.2.2.2.2 rfl tw_1_150 dX5_copy_11 ?_
  obtain ⟨x4, e, hf⟩ := ob hf
  refine q_len e B hw dX5_copy_14 ?_
  obtain ⟨h5, e, hf⟩ := ob hf
  refine q_cpI e B hw hl.1 tw_4_33 tw_3_182 tw_3_181 tw_1_21 (Nat.le_of_ble_eq_true rfl) (Nat.le_of_ble_eq_true rfl) dX5_copy_15 (fun H locs hw => ?_)
  refine lv_aload_n hx hb dX5_copy_18 rfl (lv_at hl 0 rfl) ?_
  refine lv_aload_n hx hb dX5_copy_19 rfl (lv_at hl 1 rfl) ?_
  obtain ⟨x6, e, hf⟩ := ob hf
  refine q_getI e B hw fd_5_1.1 fd_5_1.2.1 fd_5_1.2.2.1 fd_5_1.2.2.2.1 fd_5_1.2.2.2.2 rfl tw_1_151 dX5_copy_20 ?_
  obtain ⟨h7, e, hf⟩ := ob hf
  refine q_putI e B hw fd_5_1.1 fd_5_1.2.1 fd_5_1.2.2.1 fd_5_1.2.2.2.1 fd_5_1.2.2.2.2 rfl rfl (tyX5_ok 1 (by decide)) tyX5 tyX5_ok nmX5 tw_1_151 dX5_copy_23 (fun H locs hw => ?_)
  refine lv_aload_n hx hb dX5_copy_26 rfl (lv_at hl 0 rfl) ?_
  refine lv_aload_n hx hb dX5_copy_27 rfl (lv_at hl 1 rfl) ?_
  obtain ⟨x8, e, hf⟩ := ob hf
  refine q_getI e B hw fd_5_2.1 fd_5_2.2.1 fd_5_2.2.2.1 fd_5_2.2.2.2.1 fd_5_2.2.2.2.2 rfl tw_1_153 dX5_copy_28 ?_
  obtain ⟨h9, e, hf⟩ := ob hf
  refine q_putI e B hw fd_5_2.1 fd_5_2.2.1 fd_5_2.2.2.1 fd_5_2.2.2.2.1 fd_5_2.2.2.2.2 rfl rfl (tyX5_ok 2 (by decide)) tyX5 tyX5_ok nmX5 tw_1_153 dX5_copy_31 (fun H locs hw => ?_)
  obtain rfl := so hf
  exact q_vret B hw hz hc0 hr hlk dX5_copy_34
/-! SecondLife$People.has(I)Z -/
def f_X5_has (z : Sh) (h : Hp) (v0 : Nat) (v1 : Int32) : Option (Int32) :=
  if z.K v0 = 5 then
    if v1 < 0 then
      some 0
    else
      (gI z h 5 v0 1).bind fun x2 =>
      if x2 ≤ v1 then
        some 0
      else
        some 1
  else none
theorem k_X5_has {z : Sh} {h : Hp} {v0 : Nat} {v1 : Int32} {w : Int32} (hf : f_X5_has z h v0 v1 = some w) : z.K v0 = 5 := by
  unfold f_X5_has at hf
  exact (if_some hf).1
set_option maxHeartbeats 4000000 in
theorem c_X5_has {l : Launch} {s0 : State} {E : Ev} (G : Gl s0 E) {z : Sh} {h : Hp} {v0 : Nat} {v1 : Int32} {r : Int32} (hf : f_X5_has z h v0 v1 = some r) : Ct l s0 E yX5_has cX5_has 2 (some .boolean) 0 0 [.ref v0, .int v1] z h h (some (.int r)) := by
  refine Ct.of G (by decide) (Nat.le_of_ble_eq_true rfl) ?_
  intro p e s m below meth c ls B hw hz hc0 hr hlk hl
  have B : Bd p s0 s E m c cX5_has 2 RX5 := B
  have hx := B.1
  have hb := B.2.1
  have hl : lv_has ls 2 [(0, .ref v0), (1, .int v1)] := hl
  unfold f_X5_has at hf
  obtain ⟨_, hf⟩ := if_some hf
  refine lv_iload_n hx hb dX5_has_0 rfl (lv_at hl 1 rfl) ?_
  refine lv_if_lt (tgt := 16) hx hb dX5_has_1 (by decide) (fun c1 => ?_) (fun c1 => ?_)
  · have hf := (if_pos c1).symm.trans hf
    refine lv_iconst (v := 0) hx hb dX5_has_16 (by decide) ?_
    obtain rfl := so hf
    exact q_zret (Or.inl rfl) B hw hz hc0 hr hlk dX5_has_17
  · have hf := (if_neg c1).symm.trans hf
    refine lv_iload_n hx hb dX5_has_4 rfl (lv_at hl 1 rfl) ?_
    refine lv_aload_n hx hb dX5_has_5 rfl (lv_at hl 0 rfl) ?_
    obtain ⟨x2, e, hf⟩ := ob hf
    refine q_getI e B hw fd_5_1.1 fd_5_1.2.1 fd_5_1.2.2.1 fd_5_1.2.2.2.1 fd_5_1.2.2.2.2 rfl tw_1_151 dX5_has_6 ?_
    refine lv_icmp_ge (tgt := 16) hx hb dX5_has_9 (by decide) (fun c3 => ?_) (fun c3 => ?_)
    · have hf := (if_pos c3).symm.trans hf
      refine lv_iconst (v := 0) hx hb dX5_has_16 (by decide) ?_
      obtain rfl := so hf
      exact q_zret (Or.inl rfl) B hw hz hc0 hr hlk dX5_has_17
    · have hf := (if_neg c3).symm.trans hf
      refine lv_iconst (v := 1) hx hb dX5_has_12 (by decide) ?_
      refine lv_goto (tgt := 17) hx hb dX5_has_13 (by decide) ?_
      obtain rfl := so hf
      exact q_zret (Or.inr rfl) B hw hz hc0 hr hlk dX5_has_17
/-! SecondLife$People.part(II)I -/
def f_X5_part (z : Sh) (h : Hp) (v0 : Nat) (v1 : Int32) (v2 : Int32) : Option (Int32) :=
  if z.K v0 = 5 then
    (some ((v1 * 9) + v2)).bind fun x1 =>
    if x1 < 0 then
      some (0 : Int32)
    else
      (gR z h 5 v0 0).bind fun a3 =>
      (aL z a3).bind fun x4 =>
      if x4 ≤ x1 then
        some (0 : Int32)
      else
        (gR z h 5 v0 0).bind fun a6 =>
        (ldI z h a6 x1).bind fun x7 =>
        some x7
  else none
theorem k_X5_part {z : Sh} {h : Hp} {v0 : Nat} {v1 : Int32} {v2 : Int32} {w : Int32} (hf : f_X5_part z h v0 v1 v2 = some w) : z.K v0 = 5 := by
  unfold f_X5_part at hf
  exact (if_some hf).1
set_option maxHeartbeats 4000000 in
theorem c_X5_part {l : Launch} {s0 : State} {E : Ev} (G : Gl s0 E) {z : Sh} {h : Hp} {v0 : Nat} {v1 : Int32} {v2 : Int32} {r : Int32} (hf : f_X5_part z h v0 v1 v2 = some r) : Ct l s0 E yX5_part cX5_part 4 (some .int) 0 0 [.ref v0, .int v1, .int v2] z h h (some (.int r)) := by
  refine Ct.of G (by decide) (Nat.le_of_ble_eq_true rfl) ?_
  intro p e s m below meth c ls B hw hz hc0 hr hlk hl
  have B : Bd p s0 s E m c cX5_part 4 RX5 := B
  have hx := B.1
  have hb := B.2.1
  have hl : lv_has ls 4 [(0, .ref v0), (1, .int v1), (2, .int v2)] := hl
  unfold f_X5_part at hf
  obtain ⟨_, hf⟩ := if_some hf
  refine lv_iload_n hx hb dX5_part_0 rfl (lv_at hl 1 rfl) ?_
  refine lv_bipush (v := 9) hx hb dX5_part_1 (by decide) ?_
  refine lv_imul hx hb dX5_part_3 ?_
  refine lv_iload_n hx hb dX5_part_4 rfl (lv_at hl 2 rfl) ?_
  refine lv_iadd hx hb dX5_part_5 ?_
  obtain ⟨x1, e, hf⟩ := ob hf
  refine q_nmI e ?_
  refine lv_istore_n (lv' := [(3, .int x1), (0, .ref v0), (1, .int v1), (2, .int v2)]) hx hb dX5_part_6 rfl hl (by decide) rfl (fun ls hl => ?_)
  refine lv_iload_n hx hb dX5_part_7 rfl (lv_at hl 0 rfl) ?_
  refine lv_if_lt (tgt := 29) hx hb dX5_part_8 (by decide) (fun c2 => ?_) (fun c2 => ?_)
  · have hf := (if_pos c2).symm.trans hf
    refine lv_iconst (v := 0) hx hb dX5_part_29 (by decide) ?_
    obtain rfl := so hf
    exact q_iret B hw hz hc0 hr hlk dX5_part_30
  · have hf := (if_neg c2).symm.trans hf
    refine lv_iload_n hx hb dX5_part_11 rfl (lv_at hl 0 rfl) ?_
    refine lv_aload_n hx hb dX5_part_12 rfl (lv_at hl 1 rfl) ?_
    obtain ⟨a3, e, hf⟩ := ob hf
    refine q_getR e B hw fd_5_0.1 fd_5_0.2.1 fd_5_0.2.2.1 fd_5_0.2.2.2.1 fd_5_0.2.2.2.2 rfl tw_1_150 dX5_part_13 ?_
    obtain ⟨x4, e, hf⟩ := ob hf
    refine q_len e B hw dX5_part_16 ?_
    refine lv_icmp_ge (tgt := 29) hx hb dX5_part_17 (by decide) (fun c5 => ?_) (fun c5 => ?_)
    · have hf := (if_pos c5).symm.trans hf
      refine lv_iconst (v := 0) hx hb dX5_part_29 (by decide) ?_
      obtain rfl := so hf
      exact q_iret B hw hz hc0 hr hlk dX5_part_30
    · have hf := (if_neg c5).symm.trans hf
      refine lv_aload_n hx hb dX5_part_20 rfl (lv_at hl 1 rfl) ?_
      obtain ⟨a6, e, hf⟩ := ob hf
      refine q_getR e B hw fd_5_0.1 fd_5_0.2.1 fd_5_0.2.2.1 fd_5_0.2.2.2.1 fd_5_0.2.2.2.2 rfl tw_1_150 dX5_part_21 ?_
      refine lv_iload_n hx hb dX5_part_24 rfl (lv_at hl 0 rfl) ?_
      obtain ⟨x7, e, hf⟩ := ob hf
      refine q_ldI e B hw dX5_part_25 ?_
      refine lv_goto (tgt := 30) hx hb dX5_part_26 (by decide) ?_
      obtain rfl := so hf
      exact q_iret B hw hz hc0 hr hlk dX5_part_30
/-! SecondLife$People.put(III)V -/
def f_X5_put (z : Sh) (h : Hp) (v0 : Nat) (v1 : Int32) (v2 : Int32) (v3 : Int32) : Option (Hp) :=
  if z.K v0 = 5 then
    (some ((v1 * 9) + v2)).bind fun x1 =>
    if x1 < 0 then
      some h
    else
      (gR z h 5 v0 0).bind fun a3 =>
      (aL z a3).bind fun x4 =>
      if x4 ≤ x1 then
        some h
      else
        (gR z h 5 v0 0).bind fun a6 =>
        (stI z h a6 x1 v3).bind fun h7 =>
        some h7
  else none
theorem k_X5_put {z : Sh} {h : Hp} {v0 : Nat} {v1 : Int32} {v2 : Int32} {v3 : Int32} {w : Hp} (hf : f_X5_put z h v0 v1 v2 v3 = some w) : z.K v0 = 5 := by
  unfold f_X5_put at hf
  exact (if_some hf).1
set_option maxHeartbeats 4000000 in
theorem c_X5_put {l : Launch} {s0 : State} {E : Ev} (G : Gl s0 E) {z : Sh} {h : Hp} {v0 : Nat} {v1 : Int32} {v2 : Int32} {v3 : Int32} {h' : Hp} (hf : f_X5_put z h v0 v1 v2 v3 = some h') : Ct l s0 E yX5_put cX5_put 5 none 0 0 [.ref v0, .int v1, .int v2, .int v3] z h h' (none) := by
  refine Ct.of G (by decide) (Nat.le_of_ble_eq_true rfl) ?_
  intro p e s m below meth c ls B hw hz hc0 hr hlk hl
  have B : Bd p s0 s E m c cX5_put 5 RX5 := B
  have hx := B.1
  have hb := B.2.1
  have hl : lv_has ls 5 [(0, .ref v0), (1, .int v1), (2, .int v2), (3, .int v3)] := hl
  unfold f_X5_put at hf
  obtain ⟨_, hf⟩ := if_some hf
  refine lv_iload_n hx hb dX5_put_0 rfl (lv_at hl 1 rfl) ?_
  refine lv_bipush (v := 9) hx hb dX5_put_1 (by decide) ?_
  refine lv_imul hx hb dX5_put_3 ?_
  refine lv_iload_n hx hb dX5_put_4 rfl (lv_at hl 2 rfl) ?_
  refine lv_iadd hx hb dX5_put_5 ?_
  obtain ⟨x1, e, hf⟩ := ob hf
  refine q_nmI e ?_
  refine lv_istore (lv' := [(4, .int x1), (0, .ref v0), (1, .int v1), (2, .int v2), (3, .int v3)]) hx hb dX5_put_6 hl (by decide) rfl (fun ls hl => ?_)
  refine lv_iload hx hb dX5_put_8 (lv_at hl 0 rfl) ?_
  refine lv_if_lt (tgt := 31) hx hb dX5_put_10 (by decide) (fun c2 => ?_) (fun c2 => ?_)
  · have hf := (if_pos c2).symm.trans hf
    obtain rfl := so hf
    exact q_vret B hw hz hc0 hr hlk dX5_put_31
  · have hf := (if_neg c2).symm.trans hf
    refine lv_iload hx hb dX5_put_13 (lv_at hl 0 rfl) ?_
    refine lv_aload_n hx hb dX5_put_15 rfl (lv_at hl 1 rfl) ?_
    obtain ⟨a3, e, hf⟩ := ob hf
    refine q_getR e B hw fd_5_0.1 fd_5_0.2.1 fd_5_0.2.2.1 fd_5_0.2.2.2.1 fd_5_0.2.2.2.2 rfl tw_1_150 dX5_put_16 ?_
    obtain ⟨x4, e, hf⟩ := ob hf
    refine q_len e B hw dX5_put_19 ?_
    refine lv_icmp_ge (tgt := 31) hx hb dX5_put_20 (by decide) (fun c5 => ?_) (fun c5 => ?_)
    · have hf := (if_pos c5).symm.trans hf
      obtain rfl := so hf
      exact q_vret B hw hz hc0 hr hlk dX5_put_31
    · have hf := (if_neg c5).symm.trans hf
      refine lv_aload_n hx hb dX5_put_23 rfl (lv_at hl 1 rfl) ?_
      obtain ⟨a6, e, hf⟩ := ob hf
      refine q_getR e B hw fd_5_0.1 fd_5_0.2.1 fd_5_0.2.2.1 fd_5_0.2.2.2.1 fd_5_0.2.2.2.2 rfl tw_1_150 dX5_put_24 ?_
      refine lv_iload hx hb dX5_put_27 (lv_at hl 0 rfl) ?_
      refine lv_iload_n hx hb dX5_put_29 rfl (lv_at hl 4 rfl) ?_
      obtain ⟨h7, e, hf⟩ := ob hf
      refine q_stI e B hw dX5_put_30 (fun H locs hw => ?_)
      obtain rfl := so hf
      exact q_vret B hw hz hc0 hr hlk dX5_put_31
/-! SecondLife$People.wealth()I -/
def f_X5_wealth_4 (n : Nat) (z : Sh) (h : Hp) : Nat → Nat → Int32 → Int32 → Option (Int32)
  | 0, _, _, _ => none
  | i + 1, v0, v1, v2 =>
    (gI z h 5 v0 1).bind fun x1 =>
    if x1 ≤ v2 then
      some v1
    else
      (f_X5_part z h v0 v2 2).bind fun x3 =>
      (some (v1 + x3)).bind fun x4 =>
      (some (v2 + 1)).bind fun x5 =>
      (f_X5_wealth_4 n z h i) v0 x4 x5
def f_X5_wealth (n : Nat) (z : Sh) (h : Hp) (v0 : Nat) : Option (Int32) :=
  if z.K v0 = 5 then
    f_X5_wealth_4 n z h n v0 0 0
  else none
theorem k_X5_wealth {n : Nat} {z : Sh} {h : Hp} {v0 : Nat} {w : Int32} (hf : f_X5_wealth n z h v0 = some w) : z.K v0 = 5 := by
  unfold f_X5_wealth at hf
  exact (if_some hf).1
set_option maxHeartbeats 4000000 in
theorem w_X5_wealth_4 {p : Program} {l : Launch} {e : Env} {s : State} {m : MethodId} {args : Array Value} {below : List Frame} {meth : Method} {c : Code} {s0 : State} {E : Ev} {z : Sh} {h : Hp} {n : Nat} {r : Int32} (G : Gl s0 E) (B : Bd p s0 s E m c cX5_wealth 3 RX5) (hz : s0.heap.size ≤ z.sz) (hc0 : s.heap.size + 0 = z.sz) (hr : meth.sig.returnType = (some .int)) (hlk : meth.locks = false) : ∀ (i : Nat), ∀ (v0 : Nat) (v1 : Int32) (v2 : Int32) (H : Heap) (locs : List Loc) (ls : Array Slot), Pw s0 s E z h H locs → lv_has ls 3 [(0, .ref v0), (1, .int v1), (2, .int v2)] → f_X5_wealth_4 n z h i v0 v1 v2 = some r → W p l e (rmO 1 23) s m args below meth c H locs 0 0 (Zt below s0 E z h (some (.int r)) args s 0 0) (F0 m 4 ls []) := by
  have hx := B.1
  have hb := B.2.1
  intro i
  induction i with
  | zero =>
    intro v0 v1 v2 H locs ls hw hl hf
    have hf := (f_X5_wealth_4.eq_1 ..).symm.trans hf
    cases hf
  | succ i ih =>
    intro v0 v1 v2 H locs ls hw hl hf
    have hf := (f_X5_wealth_4.eq_2 ..).symm.trans hf
    refine lv_iload_n hx hb dX5_wealth_4 rfl (lv_at hl 2 rfl) ?_
    refine lv_aload_n hx hb dX5_wealth_5 rfl (lv_at hl 0 rfl) ?_
    obtain ⟨x1, e, hf⟩ := ob hf
    refine q_getI e B hw fd_5_1.1 fd_5_1.2.1 fd_5_1.2.2.1 fd_5_1.2.2.2.1 fd_5_1.2.2.2.2 rfl tw_1_151 dX5_wealth_6 ?_
    refine lv_icmp_ge (tgt := 27) hx hb dX5_wealth_9 (by decide) (fun c2 => ?_) (fun c2 => ?_)
    · have hf := (if_pos c2).symm.trans hf
      refine lv_iload_n hx hb dX5_wealth_27 rfl (lv_at hl 1 rfl) ?_
      obtain rfl := so hf
      exact q_iret B hw hz hc0 hr hlk dX5_wealth_28
    · have hf := (if_neg c2).symm.trans hf
      refine lv_iload_n hx hb dX5_wealth_12 rfl (lv_at hl 1 rfl) ?_
      refine lv_aload_n hx hb dX5_wealth_13 rfl (lv_at hl 0 rfl) ?_
      refine lv_iload_n hx hb dX5_wealth_14 rfl (lv_at hl 2 rfl) ?_
      refine lv_iconst (v := 2) hx hb dX5_wealth_15 (by decide) ?_
      obtain ⟨x3, e, hf⟩ := ob hf
      refine q_callV (As := [.int v2, .int 2]) (rest := [.int v1]) (st1 := [.int x3, .int v1]) (c_X5_part G e) B hw hz hc0 (k_X5_part e) (by decide) (ci := 5) rfl rfl my_X5_part mv_X5_part tw_4_127 ⟨Nat.le_of_ble_eq_true rfl, Nat.le_of_ble_eq_true rfl⟩ ⟨Nat.zero_le _, Nat.zero_le _⟩ rfl hl.1 rfl rfl (Nat.le_of_ble_eq_true rfl) dX5_wealth_16 (fun H locs hw => ?_)
      refine lv_iadd hx hb dX5_wealth_19 ?_
      obtain ⟨x4, e, hf⟩ := ob hf
      refine q_nmI e ?_
      refine lv_istore_n (lv' := [(1, .int x4), (0, .ref v0), (2, .int v2)]) hx hb dX5_wealth_20 rfl hl (by decide) rfl (fun ls hl => ?_)
      obtain ⟨x5, e, hf⟩ := ob hf
      refine lv_iinc (v := x5) (lv' := [(2, .int x5), (1, .int x4), (0, .ref v0)]) hx hb dX5_wealth_21 hl (k := 2) rfl (Option.some.inj e) (by decide) rfl (fun ls hl => ?_)
      refine lv_goto (tgt := 4) hx hb dX5_wealth_24 (by decide) ?_
      exact ih v0 x4 x5 _ _ _ hw (lv_sub hl [2, 1, 0] rfl) hf
set_option maxHeartbeats 4000000 in
theorem c_X5_wealth {l : Launch} {s0 : State} {E : Ev} (G : Gl s0 E) {n : Nat} {z : Sh} {h : Hp} {v0 : Nat} {r : Int32} (hf : f_X5_wealth n z h v0 = some r) : Ct l s0 E yX5_wealth cX5_wealth 3 (some .int) 1 23 [.ref v0] z h h (some (.int r)) := by
  refine Ct.of G (by decide) (Nat.le_of_ble_eq_true rfl) ?_
  intro p e s m below meth c ls B hw hz hc0 hr hlk hl
  have B : Bd p s0 s E m c cX5_wealth 3 RX5 := B
  have hx := B.1
  have hb := B.2.1
  have hl : lv_has ls 3 [(0, .ref v0)] := hl
  unfold f_X5_wealth at hf
  obtain ⟨_, hf⟩ := if_some hf
  refine lv_iconst (v := 0) hx hb dX5_wealth_0 (by decide) ?_
  refine lv_istore_n (lv' := [(1, .int 0), (0, .ref v0)]) hx hb dX5_wealth_1 rfl hl (by decide) rfl (fun ls hl => ?_)
  refine lv_iconst (v := 0) hx hb dX5_wealth_2 (by decide) ?_
  refine lv_istore_n (lv' := [(2, .int 0), (1, .int 0), (0, .ref v0)]) hx hb dX5_wealth_3 rfl hl (by decide) rfl (fun ls hl => ?_)
  exact w_X5_wealth_4 G B hz hc0 hr hlk  n v0 0 0 _ _ _ hw (lv_sub hl [2, 1, 0] rfl) hf
/-! SecondLife$People.drawn()I -/
def f_X5_drawn_30 (n : Nat) (z : Sh) (h : Hp) (k4 : Nat → Int32 → Int32 → Option (Int32)) (v0 : Nat) (v2 : Int32) (u0 : Int32) (u1 : Int32) : Option (Int32) :=
  (some (u1 ||| u0)).bind fun x1 =>
  (some (v2 + 1)).bind fun x2 =>
  k4 v0 x1 x2
def f_X5_drawn_4 (n : Nat) (z : Sh) (h : Hp) : Nat → Nat → Int32 → Int32 → Option (Int32)
  | 0, _, _, _ => none
  | i + 1, v0, v1, v2 =>
    (gI z h 5 v0 1).bind fun x1 =>
    if x1 ≤ v2 then
      some v1
    else
      (f_X5_part z h v0 v2 1).bind fun x3 =>
      if x3 = 2 then
        f_X5_drawn_30 n z h (f_X5_drawn_4 n z h i) v0 v2 ((1 : Int32) <<< (v2 &&& 31)) v1
      else
        f_X5_drawn_30 n z h (f_X5_drawn_4 n z h i) v0 v2 0 v1
def f_X5_drawn (n : Nat) (z : Sh) (h : Hp) (v0 : Nat) : Option (Int32) :=
  if z.K v0 = 5 then
    f_X5_drawn_4 n z h n v0 0 0
  else none
theorem k_X5_drawn {n : Nat} {z : Sh} {h : Hp} {v0 : Nat} {w : Int32} (hf : f_X5_drawn n z h v0 = some w) : z.K v0 = 5 := by
  unfold f_X5_drawn at hf
  exact (if_some hf).1
set_option maxHeartbeats 4000000 in
theorem w_X5_drawn_30 {p : Program} {l : Launch} {e : Env} {s : State} {m : MethodId} {args : Array Value} {below : List Frame} {meth : Method} {c : Code} {s0 : State} {E : Ev} {z : Sh} {h : Hp} {n : Nat} {k4 : Nat → Int32 → Int32 → Option (Int32)} {r : Int32} (G : Gl s0 E) (B : Bd p s0 s E m c cX5_drawn 3 RX5) (hz : s0.heap.size ≤ z.sz) (hc0 : s.heap.size + 0 = z.sz) (hr : meth.sig.returnType = (some .int)) (hlk : meth.locks = false) (hk4 : ∀ (v0 : Nat) (v1 : Int32) (v2 : Int32) (H : Heap) (locs : List Loc) (ls : Array Slot), Pw s0 s E z h H locs → lv_has ls 3 [(0, .ref v0), (1, .int v1), (2, .int v2)] → k4 v0 v1 v2 = some r → W p l e (rmO 1 23) s m args below meth c H locs 0 0 (Zt below s0 E z h (some (.int r)) args s 0 0) (F0 m 4 ls [])) : ∀ (v0 : Nat) (v2 : Int32) (u0 : Int32) (u1 : Int32) (H : Heap) (locs : List Loc) (ls : Array Slot), Pw s0 s E z h H locs → lv_has ls 3 [(0, .ref v0), (2, .int v2)] → f_X5_drawn_30 n z h k4 v0 v2 u0 u1 = some r → W p l e (rmO 1 23) s m args below meth c H locs 0 0 (Zt below s0 E z h (some (.int r)) args s 0 0) (F0 m 30 ls [.int u0, .int u1]) := by
  have hx := B.1
  have hb := B.2.1
  intro v0 v2 u0 u1 H locs ls hw hl hf
  unfold f_X5_drawn_30 at hf
  refine lv_ior hx hb dX5_drawn_30 ?_
  obtain ⟨x1, e, hf⟩ := ob hf
  refine q_nmI e ?_
  refine lv_istore_n (lv' := [(1, .int x1), (0, .ref v0), (2, .int v2)]) hx hb dX5_drawn_31 rfl hl (by decide) rfl (fun ls hl => ?_)
  obtain ⟨x2, e, hf⟩ := ob hf
  refine lv_iinc (v := x2) (lv' := [(2, .int x2), (1, .int x1), (0, .ref v0)]) hx hb dX5_drawn_32 hl (k := 2) rfl (Option.some.inj e) (by decide) rfl (fun ls hl => ?_)
  refine lv_goto (tgt := 4) hx hb dX5_drawn_35 (by decide) ?_
  exact hk4 v0 x1 x2 _ _ _ hw (lv_sub hl [2, 1, 0] rfl) hf
set_option maxHeartbeats 4000000 in
theorem w_X5_drawn_4 {p : Program} {l : Launch} {e : Env} {s : State} {m : MethodId} {args : Array Value} {below : List Frame} {meth : Method} {c : Code} {s0 : State} {E : Ev} {z : Sh} {h : Hp} {n : Nat} {r : Int32} (G : Gl s0 E) (B : Bd p s0 s E m c cX5_drawn 3 RX5) (hz : s0.heap.size ≤ z.sz) (hc0 : s.heap.size + 0 = z.sz) (hr : meth.sig.returnType = (some .int)) (hlk : meth.locks = false) : ∀ (i : Nat), ∀ (v0 : Nat) (v1 : Int32) (v2 : Int32) (H : Heap) (locs : List Loc) (ls : Array Slot), Pw s0 s E z h H locs → lv_has ls 3 [(0, .ref v0), (1, .int v1), (2, .int v2)] → f_X5_drawn_4 n z h i v0 v1 v2 = some r → W p l e (rmO 1 23) s m args below meth c H locs 0 0 (Zt below s0 E z h (some (.int r)) args s 0 0) (F0 m 4 ls []) := by
  have hx := B.1
  have hb := B.2.1
  intro i
  induction i with
  | zero =>
    intro v0 v1 v2 H locs ls hw hl hf
    have hf := (f_X5_drawn_4.eq_1 ..).symm.trans hf
    cases hf
  | succ i ih =>
    intro v0 v1 v2 H locs ls hw hl hf
    have hf := (f_X5_drawn_4.eq_2 ..).symm.trans hf
    refine lv_iload_n hx hb dX5_drawn_4 rfl (lv_at hl 2 rfl) ?_
    refine lv_aload_n hx hb dX5_drawn_5 rfl (lv_at hl 0 rfl) ?_
    obtain ⟨x1, e, hf⟩ := ob hf
    refine q_getI e B hw fd_5_1.1 fd_5_1.2.1 fd_5_1.2.2.1 fd_5_1.2.2.2.1 fd_5_1.2.2.2.2 rfl tw_1_151 dX5_drawn_6 ?_
    refine lv_icmp_ge (tgt := 38) hx hb dX5_drawn_9 (by decide) (fun c2 => ?_) (fun c2 => ?_)
    · have hf := (if_pos c2).symm.trans hf
      refine lv_iload_n hx hb dX5_drawn_38 rfl (lv_at hl 1 rfl) ?_
      obtain rfl := so hf
      exact q_iret B hw hz hc0 hr hlk dX5_drawn_39
    · have hf := (if_neg c2).symm.trans hf
      refine lv_iload_n hx hb dX5_drawn_12 rfl (lv_at hl 1 rfl) ?_
      refine lv_aload_n hx hb dX5_drawn_13 rfl (lv_at hl 0 rfl) ?_
      refine lv_iload_n hx hb dX5_drawn_14 rfl (lv_at hl 2 rfl) ?_
      refine lv_iconst (v := 1) hx hb dX5_drawn_15 (by decide) ?_
      obtain ⟨x3, e, hf⟩ := ob hf
      refine q_callV (As := [.int v2, .int 1]) (rest := [.int v1]) (st1 := [.int x3, .int v1]) (c_X5_part G e) B hw hz hc0 (k_X5_part e) (by decide) (ci := 5) rfl rfl my_X5_part mv_X5_part tw_4_127 ⟨Nat.le_of_ble_eq_true rfl, Nat.le_of_ble_eq_true rfl⟩ ⟨Nat.zero_le _, Nat.zero_le _⟩ rfl hl.1 rfl rfl (Nat.le_of_ble_eq_true rfl) dX5_drawn_16 (fun H locs hw => ?_)
      refine lv_iconst (v := 2) hx hb dX5_drawn_19 (by decide) ?_
      refine lv_icmp_ne (tgt := 29) hx hb dX5_drawn_20 (by decide) (fun c4 => ?_) (fun c4 => ?_)
      · have hf := (if_neg c4).symm.trans hf
        refine lv_iconst (v := 0) hx hb dX5_drawn_29 (by decide) ?_
        exact w_X5_drawn_30 G B hz hc0 hr hlk ih v0 v2 0 v1 _ _ _ hw (lv_sub hl [0, 2] rfl) hf
      · have hf := (if_pos c4).symm.trans hf
        refine lv_iconst (v := 1) hx hb dX5_drawn_23 (by decide) ?_
        refine lv_iload_n hx hb dX5_drawn_24 rfl (lv_at hl 2 rfl) ?_
        refine lv_ishl hx hb dX5_drawn_25 ?_
        refine lv_goto (tgt := 30) hx hb dX5_drawn_26 (by decide) ?_
        exact w_X5_drawn_30 G B hz hc0 hr hlk ih v0 v2 ((1 : Int32) <<< (v2 &&& 31)) v1 _ _ _ hw (lv_sub hl [0, 2] rfl) hf
set_option maxHeartbeats 4000000 in
theorem c_X5_drawn {l : Launch} {s0 : State} {E : Ev} (G : Gl s0 E) {n : Nat} {z : Sh} {h : Hp} {v0 : Nat} {r : Int32} (hf : f_X5_drawn n z h v0 = some r) : Ct l s0 E yX5_drawn cX5_drawn 3 (some .int) 1 23 [.ref v0] z h h (some (.int r)) := by
  refine Ct.of G (by decide) (Nat.le_of_ble_eq_true rfl) ?_
  intro p e s m below meth c ls B hw hz hc0 hr hlk hl
  have B : Bd p s0 s E m c cX5_drawn 3 RX5 := B
  have hx := B.1
  have hb := B.2.1
  have hl : lv_has ls 3 [(0, .ref v0)] := hl
  unfold f_X5_drawn at hf
  obtain ⟨_, hf⟩ := if_some hf
  refine lv_iconst (v := 0) hx hb dX5_drawn_0 (by decide) ?_
  refine lv_istore_n (lv' := [(1, .int 0), (0, .ref v0)]) hx hb dX5_drawn_1 rfl hl (by decide) rfl (fun ls hl => ?_)
  refine lv_iconst (v := 0) hx hb dX5_drawn_2 (by decide) ?_
  refine lv_istore_n (lv' := [(2, .int 0), (1, .int 0), (0, .ref v0)]) hx hb dX5_drawn_3 rfl hl (by decide) rfl (fun ls hl => ?_)
  exact w_X5_drawn_4 G B hz hc0 hr hlk  n v0 0 0 _ _ _ hw (lv_sub hl [2, 1, 0] rfl) hf
/-! SecondLife$People.pledged()I -/
def f_X5_pledged_30 (n : Nat) (z : Sh) (h : Hp) (k4 : Nat → Int32 → Int32 → Option (Int32)) (v0 : Nat) (v2 : Int32) (u0 : Int32) (u1 : Int32) : Option (Int32) :=
  (some (u1 ||| u0)).bind fun x1 =>
  (some (v2 + 1)).bind fun x2 =>
  k4 v0 x1 x2
def f_X5_pledged_4 (n : Nat) (z : Sh) (h : Hp) : Nat → Nat → Int32 → Int32 → Option (Int32)
  | 0, _, _, _ => none
  | i + 1, v0, v1, v2 =>
    (gI z h 5 v0 1).bind fun x1 =>
    if x1 ≤ v2 then
      some v1
    else
      (f_X5_part z h v0 v2 8).bind fun x3 =>
      if x3 ≤ 0 then
        f_X5_pledged_30 n z h (f_X5_pledged_4 n z h i) v0 v2 0 v1
      else
        f_X5_pledged_30 n z h (f_X5_pledged_4 n z h i) v0 v2 ((1 : Int32) <<< (v2 &&& 31)) v1
def f_X5_pledged (n : Nat) (z : Sh) (h : Hp) (v0 : Nat) : Option (Int32) :=
  if z.K v0 = 5 then
    f_X5_pledged_4 n z h n v0 0 0
  else none
theorem k_X5_pledged {n : Nat} {z : Sh} {h : Hp} {v0 : Nat} {w : Int32} (hf : f_X5_pledged n z h v0 = some w) : z.K v0 = 5 := by
  unfold f_X5_pledged at hf
  exact (if_some hf).1
set_option maxHeartbeats 4000000 in
theorem w_X5_pledged_30 {p : Program} {l : Launch} {e : Env} {s : State} {m : MethodId} {args : Array Value} {below : List Frame} {meth : Method} {c : Code} {s0 : State} {E : Ev} {z : Sh} {h : Hp} {n : Nat} {k4 : Nat → Int32 → Int32 → Option (Int32)} {r : Int32} (G : Gl s0 E) (B : Bd p s0 s E m c cX5_pledged 3 RX5) (hz : s0.heap.size ≤ z.sz) (hc0 : s.heap.size + 0 = z.sz) (hr : meth.sig.returnType = (some .int)) (hlk : meth.locks = false) (hk4 : ∀ (v0 : Nat) (v1 : Int32) (v2 : Int32) (H : Heap) (locs : List Loc) (ls : Array Slot), Pw s0 s E z h H locs → lv_has ls 3 [(0, .ref v0), (1, .int v1), (2, .int v2)] → k4 v0 v1 v2 = some r → W p l e (rmO 1 23) s m args below meth c H locs 0 0 (Zt below s0 E z h (some (.int r)) args s 0 0) (F0 m 4 ls [])) : ∀ (v0 : Nat) (v2 : Int32) (u0 : Int32) (u1 : Int32) (H : Heap) (locs : List Loc) (ls : Array Slot), Pw s0 s E z h H locs → lv_has ls 3 [(0, .ref v0), (2, .int v2)] → f_X5_pledged_30 n z h k4 v0 v2 u0 u1 = some r → W p l e (rmO 1 23) s m args below meth c H locs 0 0 (Zt below s0 E z h (some (.int r)) args s 0 0) (F0 m 30 ls [.int u0, .int u1]) := by
  have hx := B.1
  have hb := B.2.1
  intro v0 v2 u0 u1 H locs ls hw hl hf
  unfold f_X5_pledged_30 at hf
  refine lv_ior hx hb dX5_pledged_30 ?_
  obtain ⟨x1, e, hf⟩ := ob hf
  refine q_nmI e ?_
  refine lv_istore_n (lv' := [(1, .int x1), (0, .ref v0), (2, .int v2)]) hx hb dX5_pledged_31 rfl hl (by decide) rfl (fun ls hl => ?_)
  obtain ⟨x2, e, hf⟩ := ob hf
  refine lv_iinc (v := x2) (lv' := [(2, .int x2), (1, .int x1), (0, .ref v0)]) hx hb dX5_pledged_32 hl (k := 2) rfl (Option.some.inj e) (by decide) rfl (fun ls hl => ?_)
  refine lv_goto (tgt := 4) hx hb dX5_pledged_35 (by decide) ?_
  exact hk4 v0 x1 x2 _ _ _ hw (lv_sub hl [2, 1, 0] rfl) hf
set_option maxHeartbeats 4000000 in
theorem w_X5_pledged_4 {p : Program} {l : Launch} {e : Env} {s : State} {m : MethodId} {args : Array Value} {below : List Frame} {meth : Method} {c : Code} {s0 : State} {E : Ev} {z : Sh} {h : Hp} {n : Nat} {r : Int32} (G : Gl s0 E) (B : Bd p s0 s E m c cX5_pledged 3 RX5) (hz : s0.heap.size ≤ z.sz) (hc0 : s.heap.size + 0 = z.sz) (hr : meth.sig.returnType = (some .int)) (hlk : meth.locks = false) : ∀ (i : Nat), ∀ (v0 : Nat) (v1 : Int32) (v2 : Int32) (H : Heap) (locs : List Loc) (ls : Array Slot), Pw s0 s E z h H locs → lv_has ls 3 [(0, .ref v0), (1, .int v1), (2, .int v2)] → f_X5_pledged_4 n z h i v0 v1 v2 = some r → W p l e (rmO 1 23) s m args below meth c H locs 0 0 (Zt below s0 E z h (some (.int r)) args s 0 0) (F0 m 4 ls []) := by
  have hx := B.1
  have hb := B.2.1
  intro i
  induction i with
  | zero =>
    intro v0 v1 v2 H locs ls hw hl hf
    have hf := (f_X5_pledged_4.eq_1 ..).symm.trans hf
    cases hf
  | succ i ih =>
    intro v0 v1 v2 H locs ls hw hl hf
    have hf := (f_X5_pledged_4.eq_2 ..).symm.trans hf
    refine lv_iload_n hx hb dX5_pledged_4 rfl (lv_at hl 2 rfl) ?_
    refine lv_aload_n hx hb dX5_pledged_5 rfl (lv_at hl 0 rfl) ?_
    obtain ⟨x1, e, hf⟩ := ob hf
    refine q_getI e B hw fd_5_1.1 fd_5_1.2.1 fd_5_1.2.2.1 fd_5_1.2.2.2.1 fd_5_1.2.2.2.2 rfl tw_1_151 dX5_pledged_6 ?_
    refine lv_icmp_ge (tgt := 38) hx hb dX5_pledged_9 (by decide) (fun c2 => ?_) (fun c2 => ?_)
    · have hf := (if_pos c2).symm.trans hf
      refine lv_iload_n hx hb dX5_pledged_38 rfl (lv_at hl 1 rfl) ?_
      obtain rfl := so hf
      exact q_iret B hw hz hc0 hr hlk dX5_pledged_39
    · have hf := (if_neg c2).symm.trans hf
      refine lv_iload_n hx hb dX5_pledged_12 rfl (lv_at hl 1 rfl) ?_
      refine lv_aload_n hx hb dX5_pledged_13 rfl (lv_at hl 0 rfl) ?_
      refine lv_iload_n hx hb dX5_pledged_14 rfl (lv_at hl 2 rfl) ?_
      refine lv_bipush (v := 8) hx hb dX5_pledged_15 (by decide) ?_
      obtain ⟨x3, e, hf⟩ := ob hf
      refine q_callV (As := [.int v2, .int 8]) (rest := [.int v1]) (st1 := [.int x3, .int v1]) (c_X5_part G e) B hw hz hc0 (k_X5_part e) (by decide) (ci := 5) rfl rfl my_X5_part mv_X5_part tw_4_127 ⟨Nat.le_of_ble_eq_true rfl, Nat.le_of_ble_eq_true rfl⟩ ⟨Nat.zero_le _, Nat.zero_le _⟩ rfl hl.1 rfl rfl (Nat.le_of_ble_eq_true rfl) dX5_pledged_17 (fun H locs hw => ?_)
      refine lv_if_le (tgt := 29) hx hb dX5_pledged_20 (by decide) (fun c4 => ?_) (fun c4 => ?_)
      · have hf := (if_pos c4).symm.trans hf
        refine lv_iconst (v := 0) hx hb dX5_pledged_29 (by decide) ?_
        exact w_X5_pledged_30 G B hz hc0 hr hlk ih v0 v2 0 v1 _ _ _ hw (lv_sub hl [0, 2] rfl) hf
      · have hf := (if_neg c4).symm.trans hf
        refine lv_iconst (v := 1) hx hb dX5_pledged_23 (by decide) ?_
        refine lv_iload_n hx hb dX5_pledged_24 rfl (lv_at hl 2 rfl) ?_
        refine lv_ishl hx hb dX5_pledged_25 ?_
        refine lv_goto (tgt := 30) hx hb dX5_pledged_26 (by decide) ?_
        exact w_X5_pledged_30 G B hz hc0 hr hlk ih v0 v2 ((1 : Int32) <<< (v2 &&& 31)) v1 _ _ _ hw (lv_sub hl [0, 2] rfl) hf
set_option maxHeartbeats 4000000 in
theorem c_X5_pledged {l : Launch} {s0 : State} {E : Ev} (G : Gl s0 E) {n : Nat} {z : Sh} {h : Hp} {v0 : Nat} {r : Int32} (hf : f_X5_pledged n z h v0 = some r) : Ct l s0 E yX5_pledged cX5_pledged 3 (some .int) 1 23 [.ref v0] z h h (some (.int r)) := by
  refine Ct.of G (by decide) (Nat.le_of_ble_eq_true rfl) ?_
  intro p e s m below meth c ls B hw hz hc0 hr hlk hl
  have B : Bd p s0 s E m c cX5_pledged 3 RX5 := B
  have hx := B.1
  have hb := B.2.1
  have hl : lv_has ls 3 [(0, .ref v0)] := hl
  unfold f_X5_pledged at hf
  obtain ⟨_, hf⟩ := if_some hf
  refine lv_iconst (v := 0) hx hb dX5_pledged_0 (by decide) ?_
  refine lv_istore_n (lv' := [(1, .int 0), (0, .ref v0)]) hx hb dX5_pledged_1 rfl hl (by decide) rfl (fun ls hl => ?_)
  refine lv_iconst (v := 0) hx hb dX5_pledged_2 (by decide) ?_
  refine lv_istore_n (lv' := [(2, .int 0), (1, .int 0), (0, .ref v0)]) hx hb dX5_pledged_3 rfl hl (by decide) rfl (fun ls hl => ?_)
  exact w_X5_pledged_4 G B hz hc0 hr hlk  n v0 0 0 _ _ _ hw (lv_sub hl [2, 1, 0] rfl) hf
/-! SecondLife$People.everybody()I -/
def f_X5_everybody (z : Sh) (h : Hp) (v0 : Nat) : Option (Int32) :=
  if z.K v0 = 5 then
    (gI z h 5 v0 1).bind fun x1 =>
    some (((1 : Int32) <<< (x1 &&& 31)) - 1)
  else none
theorem k_X5_everybody {z : Sh} {h : Hp} {v0 : Nat} {w : Int32} (hf : f_X5_everybody z h v0 = some w) : z.K v0 = 5 := by
  unfold f_X5_everybody at hf
  exact (if_some hf).1
set_option maxHeartbeats 4000000 in
theorem c_X5_everybody {l : Launch} {s0 : State} {E : Ev} (G : Gl s0 E) {z : Sh} {h : Hp} {v0 : Nat} {r : Int32} (hf : f_X5_everybody z h v0 = some r) : Ct l s0 E yX5_everybody cX5_everybody 1 (some .int) 0 0 [.ref v0] z h h (some (.int r)) := by
  refine Ct.of G (by decide) (Nat.le_of_ble_eq_true rfl) ?_
  intro p e s m below meth c ls B hw hz hc0 hr hlk hl
  have B : Bd p s0 s E m c cX5_everybody 1 RX5 := B
  have hx := B.1
  have hb := B.2.1
  have hl : lv_has ls 1 [(0, .ref v0)] := hl
  unfold f_X5_everybody at hf
  obtain ⟨_, hf⟩ := if_some hf
  refine lv_iconst (v := 1) hx hb dX5_everybody_0 (by decide) ?_
  refine lv_aload_n hx hb dX5_everybody_1 rfl (lv_at hl 0 rfl) ?_
  obtain ⟨x1, e, hf⟩ := ob hf
  refine q_getI e B hw fd_5_1.1 fd_5_1.2.1 fd_5_1.2.2.1 fd_5_1.2.2.2.1 fd_5_1.2.2.2.2 rfl tw_1_151 dX5_everybody_2 ?_
  refine lv_ishl hx hb dX5_everybody_5 ?_
  refine lv_iconst (v := 1) hx hb dX5_everybody_6 (by decide) ?_
  refine lv_isub hx hb dX5_everybody_7 ?_
  obtain rfl := so hf
  exact q_iret B hw hz hc0 hr hlk dX5_everybody_8
/-! SecondLife$People.isSet(I)Z -/
def f_X5_isSet (z : Sh) (h : Hp) (v0 : Nat) (v1 : Int32) : Option (Int32) :=
  if z.K v0 = 5 then
    (f_X5_everybody z h v0).bind fun x1 =>
    if (v1 &&& (x1 ^^^ (-1))) = 0 then
      some 1
    else
      some 0
  else none
theorem k_X5_isSet {z : Sh} {h : Hp} {v0 : Nat} {v1 : Int32} {w : Int32} (hf : f_X5_isSet z h v0 v1 = some w) : z.K v0 = 5 := by
  unfold f_X5_isSet at hf
  exact (if_some hf).1
set_option maxHeartbeats 4000000 in
theorem c_X5_isSet {l : Launch} {s0 : State} {E : Ev} (G : Gl s0 E) {z : Sh} {h : Hp} {v0 : Nat} {v1 : Int32} {r : Int32} (hf : f_X5_isSet z h v0 v1 = some r) : Ct l s0 E yX5_isSet cX5_isSet 2 (some .boolean) 1 20 [.ref v0, .int v1] z h h (some (.int r)) := by
  refine Ct.of G (by decide) (Nat.le_of_ble_eq_true rfl) ?_
  intro p e s m below meth c ls B hw hz hc0 hr hlk hl
  have B : Bd p s0 s E m c cX5_isSet 2 RX5 := B
  have hx := B.1
  have hb := B.2.1
  have hl : lv_has ls 2 [(0, .ref v0), (1, .int v1)] := hl
  unfold f_X5_isSet at hf
  obtain ⟨_, hf⟩ := if_some hf
  refine lv_iload_n hx hb dX5_isSet_0 rfl (lv_at hl 1 rfl) ?_
  refine lv_aload_n hx hb dX5_isSet_1 rfl (lv_at hl 0 rfl) ?_
  obtain ⟨x1, e, hf⟩ := ob hf
  refine q_callV (As := []) (rest := [.int v1]) (st1 := [.int x1, .int v1]) (c_X5_everybody G e) B hw hz hc0 (k_X5_everybody e) (by decide) (ci := 5) rfl rfl my_X5_everybody mv_X5_everybody tw_5_181 ⟨Nat.le_of_ble_eq_true rfl, Nat.le_of_ble_eq_true rfl⟩ ⟨Nat.zero_le _, Nat.zero_le _⟩ rfl hl.1 rfl rfl (Nat.le_of_ble_eq_true rfl) dX5_isSet_2 (fun H locs hw => ?_)
  refine lv_iconst (v := (-1)) hx hb dX5_isSet_5 (by decide) ?_
  refine lv_ixor hx hb dX5_isSet_6 ?_
  refine lv_iand hx hb dX5_isSet_7 ?_
  refine lv_if_ne (tgt := 15) hx hb dX5_isSet_8 (by decide) (fun c2 => ?_) (fun c2 => ?_)
  · have hf := (if_neg c2).symm.trans hf
    refine lv_iconst (v := 0) hx hb dX5_isSet_15 (by decide) ?_
    obtain rfl := so hf
    exact q_zret (Or.inl rfl) B hw hz hc0 hr hlk dX5_isSet_16
  · have hf := (if_pos c2).symm.trans hf
    refine lv_iconst (v := 1) hx hb dX5_isSet_11 (by decide) ?_
    refine lv_goto (tgt := 16) hx hb dX5_isSet_12 (by decide) ?_
    obtain rfl := so hf
    exact q_zret (Or.inr rfl) B hw hz hc0 hr hlk dX5_isSet_16
/-! SecondLife$Reader.emit(I)V -/
def f_X6_emit (z : Sh) (h : Hp) (v0 : Nat) (v1 : Int32) : Option (Hp) :=
  if z.K v0 = 6 then
    (gI z h 6 v0 11).bind fun x1 =>
    (gR z h 6 v0 10).bind fun a2 =>
    (aL z a2).bind fun x3 =>
    if x3 ≤ x1 then
      some h
    else
      (gR z h 6 v0 10).bind fun a5 =>
      (gI z h 6 v0 11).bind fun x6 =>
      (stI z h a5 x6 v1).bind fun h7 =>
      (gI z h7 6 v0 11).bind fun x8 =>
      (pI z h7 6 v0 11 (x8 + 1)).bind fun h9 =>
      some h9
  else none
theorem k_X6_emit {z : Sh} {h : Hp} {v0 : Nat} {v1 : Int32} {w : Hp} (hf : f_X6_emit z h v0 v1 = some w) : z.K v0 = 6 := by
  unfold f_X6_emit at hf
  exact (if_some hf).1
set_option maxHeartbeats 4000000 in
theorem c_X6_emit {l : Launch} {s0 : State} {E : Ev} (G : Gl s0 E) {z : Sh} {h : Hp} {v0 : Nat} {v1 : Int32} {h' : Hp} (hf : f_X6_emit z h v0 v1 = some h') : Ct l s0 E yX6_emit cX6_emit 2 none 0 0 [.ref v0, .int v1] z h h' (none) := by
  refine Ct.of G (by decide) (Nat.le_of_ble_eq_true rfl) ?_
  intro p e s m below meth c ls B hw hz hc0 hr hlk hl
  have B : Bd p s0 s E m c cX6_emit 2 RX6 := B
  have hx := B.1
  have hb := B.2.1
  have hl : lv_has ls 2 [(0, .ref v0), (1, .int v1)] := hl
  unfold f_X6_emit at hf
  obtain ⟨_, hf⟩ := if_some hf
  refine lv_aload_n hx hb dX6_emit_0 rfl (lv_at hl 0 rfl) ?_
  obtain ⟨x1, e, hf⟩ := ob hf
  refine q_getI e B hw fd_6_11.1 fd_6_11.2.1 fd_6_11.2.2.1 fd_6_11.2.2.2.1 fd_6_11.2.2.2.2 rfl tw_1_116 dX6_emit_1 ?_
  refine lv_aload_n hx hb dX6_emit_4 rfl (lv_at hl 0 rfl) ?_
  obtain ⟨a2, e, hf⟩ := ob hf
  refine q_getR e B hw fd_6_10.1 fd_6_10.2.1 fd_6_10.2.2.1 fd_6_10.2.2.2.1 fd_6_10.2.2.2.2 rfl tw_1_115 dX6_emit_5 ?_
  obtain ⟨x3, e, hf⟩ := ob hf
  refine q_len e B hw dX6_emit_8 ?_
  refine lv_icmp_ge (tgt := 32) hx hb dX6_emit_9 (by decide) (fun c4 => ?_) (fun c4 => ?_)
  · have hf := (if_pos c4).symm.trans hf
    obtain rfl := so hf
    exact q_vret B hw hz hc0 hr hlk dX6_emit_32
  · have hf := (if_neg c4).symm.trans hf
    refine lv_aload_n hx hb dX6_emit_12 rfl (lv_at hl 0 rfl) ?_
    obtain ⟨a5, e, hf⟩ := ob hf
    refine q_getR e B hw fd_6_10.1 fd_6_10.2.1 fd_6_10.2.2.1 fd_6_10.2.2.2.1 fd_6_10.2.2.2.2 rfl tw_1_115 dX6_emit_13 ?_
    refine lv_aload_n hx hb dX6_emit_16 rfl (lv_at hl 0 rfl) ?_
    obtain ⟨x6, e, hf⟩ := ob hf
    refine q_getI e B hw fd_6_11.1 fd_6_11.2.1 fd_6_11.2.2.1 fd_6_11.2.2.2.1 fd_6_11.2.2.2.2 rfl tw_1_116 dX6_emit_17 ?_
    refine lv_iload_n hx hb dX6_emit_20 rfl (lv_at hl 1 rfl) ?_
    obtain ⟨h7, e, hf⟩ := ob hf
    refine q_stI e B hw dX6_emit_21 (fun H locs hw => ?_)
    refine lv_aload_n hx hb dX6_emit_22 rfl (lv_at hl 0 rfl) ?_
    refine lv_dup hx hb dX6_emit_23 rfl ?_
    obtain ⟨x8, e, hf⟩ := ob hf
    refine q_getI e B hw fd_6_11.1 fd_6_11.2.1 fd_6_11.2.2.1 fd_6_11.2.2.2.1 fd_6_11.2.2.2.2 rfl tw_1_116 dX6_emit_24 ?_
    refine lv_iconst (v := 1) hx hb dX6_emit_27 (by decide) ?_
    refine lv_iadd hx hb dX6_emit_28 ?_
    obtain ⟨h9, e, hf⟩ := ob hf
    refine q_putI e B hw fd_6_11.1 fd_6_11.2.1 fd_6_11.2.2.1 fd_6_11.2.2.2.1 fd_6_11.2.2.2.2 rfl rfl (tyX6_ok 11 (by decide)) tyX6 tyX6_ok nmX6 tw_1_116 dX6_emit_29 (fun H locs hw => ?_)
    obtain rfl := so hf
    exact q_vret B hw hz hc0 hr hlk dX6_emit_32
/-! SecondLife$Reader.wrong(I)Z -/
def f_X6_wrong_21 (z : Sh) (h : Hp) (v0 : Nat) (u0 : Int32) (u1 : Nat) : Option (Int32 × Hp) :=
  (pI z h 6 u1 0 u0).bind fun h1 =>
  (gI z h1 6 v0 4).bind fun x2 =>
  (pI z h1 6 v0 1 x2).bind fun h3 =>
  some (0, h3)
def f_X6_wrong (z : Sh) (h : Hp) (v0 : Nat) (v1 : Int32) : Option (Int32 × Hp) :=
  if z.K v0 = 6 then
    (gI z h 6 v0 0).bind fun x1 =>
    if x1 = 0 then
      (gI z h 6 v0 6).bind fun x3 =>
      if x3 = 4 then
        f_X6_wrong_21 z h v0 1 v0
      else
        f_X6_wrong_21 z h v0 v1 v0
    else
      some (0, h)
  else none
theorem k_X6_wrong {z : Sh} {h : Hp} {v0 : Nat} {v1 : Int32} {w : Int32 × Hp} (hf : f_X6_wrong z h v0 v1 = some w) : z.K v0 = 6 := by
  unfold f_X6_wrong at hf
  exact (if_some hf).1
set_option maxHeartbeats 4000000 in
theorem w_X6_wrong_21 {p : Program} {l : Launch} {e : Env} {s : State} {m : MethodId} {args : Array Value} {below : List Frame} {meth : Method} {c : Code} {s0 : State} {E : Ev} {z : Sh} {r : Int32} {h' : Hp} (G : Gl s0 E) (B : Bd p s0 s E m c cX6_wrong 2 RX6) (hz : s0.heap.size ≤ z.sz) (hc0 : s.heap.size + 0 = z.sz) (hr : meth.sig.returnType = (some .boolean)) (hlk : meth.locks = false) : ∀ (h : Hp) (v0 : Nat) (u0 : Int32) (u1 : Nat) (H : Heap) (locs : List Loc) (ls : Array Slot), Pw s0 s E z h H locs → lv_has ls 2 [(0, .ref v0)] → f_X6_wrong_21 z h v0 u0 u1 = some (r, h') → W p l e (rmO 0 0) s m args below meth c H locs 0 0 (Zt below s0 E z h' (some (.int r)) args s 0 0) (F0 m 21 ls [.int u0, .ref u1]) := by
  have hx := B.1
  have hb := B.2.1
  intro h v0 u0 u1 H locs ls hw hl hf
  unfold f_X6_wrong_21 at hf
  obtain ⟨h1, e, hf⟩ := ob hf
  refine q_putI e B hw fd_6_0.1 fd_6_0.2.1 fd_6_0.2.2.1 fd_6_0.2.2.2.1 fd_6_0.2.2.2.2 rfl rfl (tyX6_ok 0 (by decide)) tyX6 tyX6_ok nmX6 tw_1_103 dX6_wrong_21 (fun H locs hw => ?_)
  refine lv_aload_n hx hb dX6_wrong_24 rfl (lv_at hl 0 rfl) ?_
  refine lv_aload_n hx hb dX6_wrong_25 rfl (lv_at hl 0 rfl) ?_
  obtain ⟨x2, e, hf⟩ := ob hf
  refine q_getI e B hw fd_6_4.1 fd_6_4.2.1 fd_6_4.2.2.1 fd_6_4.2.2.2.1 fd_6_4.2.2.2.2 rfl tw_1_109 dX6_wrong_26 ?_
  obtain ⟨h3, e, hf⟩ := ob hf
  refine q_putI e B hw fd_6_1.1 fd_6_1.2.1 fd_6_1.2.2.1 fd_6_1.2.2.2.1 fd_6_1.2.2.2.2 rfl rfl (tyX6_ok 1 (by decide)) tyX6 tyX6_ok nmX6 tw_1_105 dX6_wrong_29 (fun H locs hw => ?_)
  refine lv_iconst (v := 0) hx hb dX6_wrong_32 (by decide) ?_
  obtain ⟨rfl, rfl⟩ := so2 hf
  exact q_zret (Or.inl rfl) B hw hz hc0 hr hlk dX6_wrong_33
set_option maxHeartbeats 4000000 in
theorem c_X6_wrong {l : Launch} {s0 : State} {E : Ev} (G : Gl s0 E) {z : Sh} {h : Hp} {v0 : Nat} {v1 : Int32} {r : Int32} {h' : Hp} (hf : f_X6_wrong z h v0 v1 = some (r, h')) : Ct l s0 E yX6_wrong cX6_wrong 2 (some .boolean) 0 0 [.ref v0, .int v1] z h h' (some (.int r)) := by
  refine Ct.of G (by decide) (Nat.le_of_ble_eq_true rfl) ?_
  intro p e s m below meth c ls B hw hz hc0 hr hlk hl
  have B : Bd p s0 s E m c cX6_wrong 2 RX6 := B
  have hx := B.1
  have hb := B.2.1
  have hl : lv_has ls 2 [(0, .ref v0), (1, .int v1)] := hl
  unfold f_X6_wrong at hf
  obtain ⟨_, hf⟩ := if_some hf
  refine lv_aload_n hx hb dX6_wrong_0 rfl (lv_at hl 0 rfl) ?_
  obtain ⟨x1, e, hf⟩ := ob hf
  refine q_getI e B hw fd_6_0.1 fd_6_0.2.1 fd_6_0.2.2.1 fd_6_0.2.2.2.1 fd_6_0.2.2.2.2 rfl tw_1_103 dX6_wrong_1 ?_
  refine lv_if_ne (tgt := 32) hx hb dX6_wrong_4 (by decide) (fun c2 => ?_) (fun c2 => ?_)
  · have hf := (if_neg c2).symm.trans hf
    refine lv_iconst (v := 0) hx hb dX6_wrong_32 (by decide) ?_
    obtain ⟨rfl, rfl⟩ := so2 hf
    exact q_zret (Or.inl rfl) B hw hz hc0 hr hlk dX6_wrong_33
  · have hf := (if_pos c2).symm.trans hf
    refine lv_aload_n hx hb dX6_wrong_7 rfl (lv_at hl 0 rfl) ?_
    refine lv_aload_n hx hb dX6_wrong_8 rfl (lv_at hl 0 rfl) ?_
    obtain ⟨x3, e, hf⟩ := ob hf
    refine q_getI e B hw fd_6_6.1 fd_6_6.2.1 fd_6_6.2.2.1 fd_6_6.2.2.2.1 fd_6_6.2.2.2.2 rfl tw_1_111 dX6_wrong_9 ?_
    refine lv_iconst (v := 4) hx hb dX6_wrong_12 (by decide) ?_
    refine lv_icmp_ne (tgt := 20) hx hb dX6_wrong_13 (by decide) (fun c4 => ?_) (fun c4 => ?_)
    · have hf := (if_neg c4).symm.trans hf
      refine lv_iload_n hx hb dX6_wrong_20 rfl (lv_at hl 1 rfl) ?_
      exact w_X6_wrong_21 G B hz hc0 hr hlk  h v0 v1 v0 _ _ _ hw (lv_sub hl [0] rfl) hf
    · have hf := (if_pos c4).symm.trans hf
      refine lv_iconst (v := 1) hx hb dX6_wrong_16 (by decide) ?_
      refine lv_goto (tgt := 21) hx hb dX6_wrong_17 (by decide) ?_
      exact w_X6_wrong_21 G B hz hc0 hr hlk  h v0 1 v0 _ _ _ hw (lv_sub hl [0] rfl) hf
/-! SecondLife$Reader.byteAt(I)I -/
def f_X6_byteAt (z : Sh) (h : Hp) (v0 : Nat) (v1 : Int32) : Option (Int32) :=
  if z.K v0 = 6 then
    if v1 < 0 then
      some (0 : Int32)
    else
      (gR z h 6 v0 2).bind fun a2 =>
      (aL z a2).bind fun x3 =>
      if x3 ≤ v1 then
        some (0 : Int32)
      else
        (gR z h 6 v0 2).bind fun a5 =>
        (ldB z h a5 v1).bind fun x6 =>
        some (x6 &&& 255)
  else none
theorem k_X6_byteAt {z : Sh} {h : Hp} {v0 : Nat} {v1 : Int32} {w : Int32} (hf : f_X6_byteAt z h v0 v1 = some w) : z.K v0 = 6 := by
  unfold f_X6_byteAt at hf
  exact (if_some hf).1
set_option maxHeartbeats 4000000 in
theorem c_X6_byteAt {l : Launch} {s0 : State} {E : Ev} (G : Gl s0 E) {z : Sh} {h : Hp} {v0 : Nat} {v1 : Int32} {r : Int32} (hf : f_X6_byteAt z h v0 v1 = some r) : Ct l s0 E yX6_byteAt cX6_byteAt 2 (some .int) 0 0 [.ref v0, .int v1] z h h (some (.int r)) := by
  refine Ct.of G (by decide) (Nat.le_of_ble_eq_true rfl) ?_
  intro p e s m below meth c ls B hw hz hc0 hr hlk hl
  have B : Bd p s0 s E m c cX6_byteAt 2 RX6 := B
  have hx := B.1
  have hb := B.2.1
  have hl : lv_has ls 2 [(0, .ref v0), (1, .int v1)] := hl
  unfold f_X6_byteAt at hf
  obtain ⟨_, hf⟩ := if_some hf
  refine lv_iload_n hx hb dX6_byteAt_0 rfl (lv_at hl 1 rfl) ?_
  refine lv_if_lt (tgt := 26) hx hb dX6_byteAt_1 (by decide) (fun c1 => ?_) (fun c1 => ?_)
  · have hf := (if_pos c1).symm.trans hf
    refine lv_iconst (v := 0) hx hb dX6_byteAt_26 (by decide) ?_
    obtain rfl := so hf
    exact q_iret B hw hz hc0 hr hlk dX6_byteAt_27
  · have hf := (if_neg c1).symm.trans hf
    refine lv_iload_n hx hb dX6_byteAt_4 rfl (lv_at hl 1 rfl) ?_
    refine lv_aload_n hx hb dX6_byteAt_5 rfl (lv_at hl 0 rfl) ?_
    obtain ⟨a2, e, hf⟩ := ob hf
    refine q_getR e B hw fd_6_2.1 fd_6_2.2.1 fd_6_2.2.2.1 fd_6_2.2.2.2.1 fd_6_2.2.2.2.2 rfl tw_1_107 dX6_byteAt_6 ?_
    obtain ⟨x3, e, hf⟩ := ob hf
    refine q_len e B hw dX6_byteAt_9 ?_
    refine lv_icmp_ge (tgt := 26) hx hb dX6_byteAt_10 (by decide) (fun c4 => ?_) (fun c4 => ?_)
    · have hf := (if_pos c4).symm.trans hf
      refine lv_iconst (v := 0) hx hb dX6_byteAt_26 (by decide) ?_
      obtain rfl := so hf
      exact q_iret B hw hz hc0 hr hlk dX6_byteAt_27
    · have hf := (if_neg c4).symm.trans hf
      refine lv_aload_n hx hb dX6_byteAt_13 rfl (lv_at hl 0 rfl) ?_
      obtain ⟨a5, e, hf⟩ := ob hf
      refine q_getR e B hw fd_6_2.1 fd_6_2.2.1 fd_6_2.2.2.1 fd_6_2.2.2.2.1 fd_6_2.2.2.2.2 rfl tw_1_107 dX6_byteAt_14 ?_
      refine lv_iload_n hx hb dX6_byteAt_17 rfl (lv_at hl 1 rfl) ?_
      obtain ⟨x6, e, hf⟩ := ob hf
      refine q_ldB e B hw dX6_byteAt_18 ?_
      refine lv_sipush (v := 255) hx hb dX6_byteAt_19 (by decide) ?_
      refine lv_iand hx hb dX6_byteAt_22 ?_
      refine lv_goto (tgt := 27) hx hb dX6_byteAt_23 (by decide) ?_
      obtain rfl := so hf
      exact q_iret B hw hz hc0 hr hlk dX6_byteAt_27
/-! SecondLife$Reader.isBlank(I)Z -/
def f_X6_isBlank (z : Sh) (h : Hp) (v0 : Int32) : Option (Int32) :=
  if v0 = 10 then
    some 1
  else
    if v0 = 32 then
      some 1
    else
      some 0
set_option maxHeartbeats 4000000 in
theorem c_X6_isBlank {l : Launch} {s0 : State} {E : Ev} (G : Gl s0 E) {z : Sh} {h : Hp} {v0 : Int32} {r : Int32} (hf : f_X6_isBlank z h v0 = some r) : Ct l s0 E yX6_isBlank cX6_isBlank 1 (some .boolean) 0 0 [.int v0] z h h (some (.int r)) := by
  refine Ct.of G (by decide) (Nat.le_of_ble_eq_true rfl) ?_
  intro p e s m below meth c ls B hw hz hc0 hr hlk hl
  have B : Bd p s0 s E m c cX6_isBlank 1 RX6 := B
  have hx := B.1
  have hb := B.2.1
  have hl : lv_has ls 1 [(0, .int v0)] := hl
  unfold f_X6_isBlank at hf
  refine lv_iload_n hx hb dX6_isBlank_0 rfl (lv_at hl 0 rfl) ?_
  refine lv_bipush (v := 10) hx hb dX6_isBlank_1 (by decide) ?_
  refine lv_icmp_eq (tgt := 12) hx hb dX6_isBlank_3 (by decide) (fun c1 => ?_) (fun c1 => ?_)
  · have hf := (if_pos c1).symm.trans hf
    refine lv_iconst (v := 1) hx hb dX6_isBlank_12 (by decide) ?_
    refine lv_goto (tgt := 17) hx hb dX6_isBlank_13 (by decide) ?_
    obtain rfl := so hf
    exact q_zret (Or.inr rfl) B hw hz hc0 hr hlk dX6_isBlank_17
  · have hf := (if_neg c1).symm.trans hf
    refine lv_iload_n hx hb dX6_isBlank_6 rfl (lv_at hl 0 rfl) ?_
    refine lv_bipush (v := 32) hx hb dX6_isBlank_7 (by decide) ?_
    refine lv_icmp_ne (tgt := 16) hx hb dX6_isBlank_9 (by decide) (fun c2 => ?_) (fun c2 => ?_)
    · have hf := (if_neg c2).symm.trans hf
      refine lv_iconst (v := 0) hx hb dX6_isBlank_16 (by decide) ?_
      obtain rfl := so hf
      exact q_zret (Or.inl rfl) B hw hz hc0 hr hlk dX6_isBlank_17
    · have hf := (if_pos c2).symm.trans hf
      refine lv_iconst (v := 1) hx hb dX6_isBlank_12 (by decide) ?_
      refine lv_goto (tgt := 17) hx hb dX6_isBlank_13 (by decide) ?_
      obtain rfl := so hf
      exact q_zret (Or.inr rfl) B hw hz hc0 hr hlk dX6_isBlank_17
