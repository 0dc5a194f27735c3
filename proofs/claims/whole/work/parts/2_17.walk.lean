/-! SecondLife$Town.<init>()V -/
def f_X8_init (z : Sh) (h : Hp) (v0 : Nat) : Option (Hp × Sh) :=
  if z.K v0 = 8 then
    gd2 z <|
    (pI z h 8 v0 0 1).bind fun h1 =>
    (pI z h1 8 v0 1 1).bind fun h2 =>
    (pI z h2 8 v0 2 0).bind fun h3 =>
    (pI z h3 8 v0 3 0).bind fun h4 =>
    (pI z h4 8 v0 4 0).bind fun h5 =>
    (pI z h5 8 v0 5 0).bind fun h6 =>
    (nwA z h6 14 6).bind fun (a7, h8, z9) =>
    gd2 z9 <|
    (pR z9 h8 8 v0 6 (some a7)).bind fun h10 =>
    (nwA z9 h10 14 6).bind fun (a11, h12, z13) =>
    gd2 z13 <|
    (pR z13 h12 8 v0 7 (some a11)).bind fun h14 =>
    (pR z13 h14 8 v0 8 (some (z13.st 0))).bind fun h15 =>
    (pR z13 h15 8 v0 9 (some (z13.st 1))).bind fun h16 =>
    some (h16, z13)
  else none
theorem k_X8_init {z : Sh} {h : Hp} {v0 : Nat} {w : Hp × Sh} (hf : f_X8_init z h v0 = some w) : z.K v0 = 8 := by
  unfold f_X8_init at hf
  exact (if_some hf).1
theorem mo_X8_init {z : Sh} {h : Hp} {v0 : Nat} {h' : Hp} {zE : Sh} (hf : f_X8_init z h v0 = some (h', zE)) : z.sz ≤ zE.sz ∧ z.sl ≤ zE.sl := by
  unfold f_X8_init at hf
  exact (gd2_some (if_some hf).2).1
set_option maxHeartbeats 4000000 in
theorem c_X8_init {l : Launch} {s0 : State} {E : Ev} (G : Gl s0 E) {z : Sh} {h : Hp} {v0 : Nat} {h' : Hp} {zE : Sh} (hf : f_X8_init z h v0 = some (h', zE)) : Ca l s0 E yX8_init cX8_init 1 none 1 24 [.ref v0] z zE h h' (none) := by
  refine Ca.of G (by decide +kernel) (Nat.le_of_ble_eq_true rfl) (mo_X8_init hf) ?_
  intro p e s m below meth c ls B hw hM hr hlk hnm0 hl
  have B : Bd p s0 s E m c cX8_init 1 RX8 := B
  have hx := B.1
  have hb := B.2.1
  have hl : lv_has ls 1 [(0, .ref v0)] := hl
  have hin : meth.name = "<init>" := hnm0
  unfold f_X8_init at hf
  obtain ⟨_, hf⟩ := if_some hf
  obtain ⟨_, hf⟩ := gd2_some hf
  refine lv_aload_n hx hb dX8_init_0 rfl (lv_at hl 0 rfl) ?_
  refine q_obj B hl.1 tw_1_42 tw_1_29 tw_1_30 (Nat.le_of_ble_eq_true rfl) (Nat.le_of_ble_eq_true rfl) dX8_init_1 ?_
  refine lv_aload_n hx hb dX8_init_4 rfl (lv_at hl 0 rfl) ?_
  refine lv_iconst (v := 1) hx hb dX8_init_5 (by decide) ?_
  obtain ⟨h1, e, hf⟩ := ob hf
  refine q_putI e B hw fd_8_0.1 fd_8_0.2.1 fd_8_0.2.2.1 fd_8_0.2.2.2.1 fd_8_0.2.2.2.2 rfl rfl (tyX8_ok 0 (by decide)) tyX8 tyX8_ok nmX8 tw_1_47 dX8_init_6 (fun H locs hw => ?_)
  refine lv_aload_n hx hb dX8_init_9 rfl (lv_at hl 0 rfl) ?_
  refine lv_iconst (v := 1) hx hb dX8_init_10 (by decide) ?_
  obtain ⟨h2, e, hf⟩ := ob hf
  refine q_putI e B hw fd_8_1.1 fd_8_1.2.1 fd_8_1.2.2.1 fd_8_1.2.2.2.1 fd_8_1.2.2.2.2 rfl rfl (tyX8_ok 1 (by decide)) tyX8 tyX8_ok nmX8 tw_1_55 dX8_init_11 (fun H locs hw => ?_)
  refine lv_aload_n hx hb dX8_init_14 rfl (lv_at hl 0 rfl) ?_
  refine lv_iconst (v := 0) hx hb dX8_init_15 (by decide) ?_
  obtain ⟨h3, e, hf⟩ := ob hf
  refine q_putI e B hw fd_8_2.1 fd_8_2.2.1 fd_8_2.2.2.1 fd_8_2.2.2.2.1 fd_8_2.2.2.2.2 rfl rfl (tyX8_ok 2 (by decide)) tyX8 tyX8_ok nmX8 tw_1_60 dX8_init_16 (fun H locs hw => ?_)
  refine lv_aload_n hx hb dX8_init_19 rfl (lv_at hl 0 rfl) ?_
  refine lv_iconst (v := 0) hx hb dX8_init_20 (by decide) ?_
  obtain ⟨h4, e, hf⟩ := ob hf
  refine q_putI e B hw fd_8_3.1 fd_8_3.2.1 fd_8_3.2.2.1 fd_8_3.2.2.2.1 fd_8_3.2.2.2.2 rfl rfl (tyX8_ok 3 (by decide)) tyX8 tyX8_ok nmX8 tw_1_63 dX8_init_21 (fun H locs hw => ?_)
  refine lv_aload_n hx hb dX8_init_24 rfl (lv_at hl 0 rfl) ?_
  refine lv_iconst (v := 0) hx hb dX8_init_25 (by decide) ?_
  obtain ⟨h5, e, hf⟩ := ob hf
  refine q_putI e B hw fd_8_4.1 fd_8_4.2.1 fd_8_4.2.2.1 fd_8_4.2.2.2.1 fd_8_4.2.2.2.2 rfl rfl (tyX8_ok 4 (by decide)) tyX8 tyX8_ok nmX8 tw_1_66 dX8_init_26 (fun H locs hw => ?_)
  refine lv_aload_n hx hb dX8_init_29 rfl (lv_at hl 0 rfl) ?_
  refine lv_iconst (v := 0) hx hb dX8_init_30 (by decide) ?_
  obtain ⟨h6, e, hf⟩ := ob hf
  refine q_putI e B hw fd_8_5.1 fd_8_5.2.1 fd_8_5.2.2.1 fd_8_5.2.2.2.1 fd_8_5.2.2.2.2 rfl rfl (tyX8_ok 5 (by decide)) tyX8 tyX8_ok nmX8 tw_1_69 dX8_init_31 (fun H locs hw => ?_)
  refine lv_aload_n hx hb dX8_init_34 rfl (lv_at hl 0 rfl) ?_
  refine lv_bipush (v := 6) hx hb dX8_init_35 (by decide) ?_
  obtain ⟨⟨a7, h8, z9⟩, e, hf⟩ := ob hf
  obtain ⟨hg, hf⟩ := gd2_some hf
  refine q_newA (atype := .int) (ty := .int) (t0 := 1) e hg B hw hM (by decide) rfl rfl rfl (cfn_14 E _ _) arn_14 tw_1_102 dX8_init_37 (fun H locs hw hM => ?_)
  obtain ⟨h10, e, hf⟩ := ob hf
  refine q_putRF e B hw hin fd_8_6.1 fd_8_6.2.1 fd_8_6.2.2.1 fd_8_6.2.2.2.1 fd_8_6.2.2.2.2 rfl rfl rfl (tyX8_ok 6 (by decide)) (Or.inr ⟨_, rfl⟩) tyX8 tyX8_ok nmX8 tw_1_72 dX8_init_39 (fun H locs hw => ?_)
  refine lv_aload_n hx hb dX8_init_42 rfl (lv_at hl 0 rfl) ?_
  refine lv_bipush (v := 6) hx hb dX8_init_43 (by decide) ?_
  obtain ⟨⟨a11, h12, z13⟩, e, hf⟩ := ob hf
  obtain ⟨hg, hf⟩ := gd2_some hf
  refine q_newA (atype := .int) (ty := .int) (t0 := 1) e hg B hw hM (by decide) rfl rfl rfl (cfn_14 E _ _) arn_14 tw_1_102 dX8_init_45 (fun H locs hw hM => ?_)
  obtain ⟨h14, e, hf⟩ := ob hf
  refine q_putRF e B hw hin fd_8_7.1 fd_8_7.2.1 fd_8_7.2.2.1 fd_8_7.2.2.2.1 fd_8_7.2.2.2.2 rfl rfl rfl (tyX8_ok 7 (by decide)) (Or.inr ⟨_, rfl⟩) tyX8 tyX8_ok nmX8 tw_1_73 dX8_init_47 (fun H locs hw => ?_)
  refine lv_aload_n hx hb dX8_init_50 rfl (lv_at hl 0 rfl) ?_
  refine q_gsR (k := 0) G.2.2.1 B hw rfl tw_1_43 dX8_init_51 ?_
  obtain ⟨h15, e, hf⟩ := ob hf
  refine q_putR e B hw fd_8_8.1 fd_8_8.2.1 fd_8_8.2.2.1 fd_8_8.2.2.2.1 fd_8_8.2.2.2.2 rfl rfl (tyX8_ok 8 (by decide)) (Or.inr ⟨_, rfl⟩) tyX8 tyX8_ok nmX8 tw_1_74 dX8_init_54 (fun H locs hw => ?_)
  refine lv_aload_n hx hb dX8_init_57 rfl (lv_at hl 0 rfl) ?_
  refine q_gsR (k := 1) G.2.2.2.1 B hw rfl tw_1_45 dX8_init_58 ?_
  obtain ⟨h16, e, hf⟩ := ob hf
  refine q_putR e B hw fd_8_9.1 fd_8_9.2.1 fd_8_9.2.2.1 fd_8_9.2.2.2.1 fd_8_9.2.2.2.2 rfl rfl (tyX8_ok 9 (by decide)) (Or.inr ⟨_, rfl⟩) tyX8 tyX8_ok nmX8 tw_1_77 dX8_init_61 (fun H locs hw => ?_)
  obtain ⟨rfl, rfl⟩ := so2 hf
  exact q_vret B hw hM.hz hM.hc0 hr hlk dX8_init_64
/-! SecondLife$Town.hasTrade(J)Z -/
def f_X8_hasTrade (z : Sh) (h : Hp) (v0 : Nat) (v1 : Int64) : Option (Int32) :=
  if z.K v0 = 8 then
    if (lg_cmp v1 0) < 0 then
      some 0
    else
      (gI z h 8 v0 1).bind fun x2 =>
      if 0 ≤ (lg_cmp v1 (Int32.toInt64 x2)) then
        some 0
      else
        some 1
  else none
theorem k_X8_hasTrade {z : Sh} {h : Hp} {v0 : Nat} {v1 : Int64} {w : Int32} (hf : f_X8_hasTrade z h v0 v1 = some w) : z.K v0 = 8 := by
  unfold f_X8_hasTrade at hf
  exact (if_some hf).1
set_option maxHeartbeats 4000000 in
theorem c_X8_hasTrade {l : Launch} {s0 : State} {E : Ev} (G : Gl s0 E) {z : Sh} {h : Hp} {v0 : Nat} {v1 : Int64} {r : Int32} (hf : f_X8_hasTrade z h v0 v1 = some r) : Ct l s0 E yX8_hasTrade cX8_hasTrade 3 (some .boolean) 0 0 [.ref v0, .long v1] z h h (some (.int r)) := by
  refine Ct.of G (by decide) (Nat.le_of_ble_eq_true rfl) ?_
  intro p e s m below meth c ls B hw hz hc0 hr hlk hl
  have B : Bd p s0 s E m c cX8_hasTrade 3 RX8 := B
  have hx := B.1
  have hb := B.2.1
  have hl : lv_has ls 3 [(0, .ref v0), (1, .long v1)] := hl
  unfold f_X8_hasTrade at hf
  obtain ⟨_, hf⟩ := if_some hf
  refine lv_lload_n hx hb dX8_hasTrade_0 rfl (lv_at hl 1 rfl) ?_
  refine lv_lconst (v := 0) hx hb dX8_hasTrade_1 (by decide) ?_
  refine W.lcmp hx hb dX8_hasTrade_2 ?_
  refine lv_if_lt (tgt := 20) hx hb dX8_hasTrade_3 (by decide) (fun c1 => ?_) (fun c1 => ?_)
  · have hf := (if_pos c1).symm.trans hf
    refine lv_iconst (v := 0) hx hb dX8_hasTrade_20 (by decide) ?_
    obtain rfl := so hf
    exact q_zret (Or.inl rfl) B hw hz hc0 hr hlk dX8_hasTrade_21
  · have hf := (if_neg c1).symm.trans hf
    refine lv_lload_n hx hb dX8_hasTrade_6 rfl (lv_at hl 1 rfl) ?_
    refine lv_aload_n hx hb dX8_hasTrade_7 rfl (lv_at hl 0 rfl) ?_
    obtain ⟨x2, e, hf⟩ := ob hf
    refine q_getI e B hw fd_8_1.1 fd_8_1.2.1 fd_8_1.2.2.1 fd_8_1.2.2.2.1 fd_8_1.2.2.2.2 rfl tw_1_55 dX8_hasTrade_8 ?_
    refine lv_i2l (v := (Int32.toInt64 x2)) hx hb dX8_hasTrade_11 rfl ?_
    refine W.lcmp hx hb dX8_hasTrade_12 ?_
    refine lv_if_ge (tgt := 20) hx hb dX8_hasTrade_13 (by decide) (fun c3 => ?_) (fun c3 => ?_)
    · have hf := (if_pos c3).symm.trans hf
      refine lv_iconst (v := 0) hx hb dX8_hasTrade_20 (by decide) ?_
      obtain rfl := so hf
      exact q_zret (Or.inl rfl) B hw hz hc0 hr hlk dX8_hasTrade_21
    · have hf := (if_neg c3).symm.trans hf
      refine lv_iconst (v := 1) hx hb dX8_hasTrade_16 (by decide) ?_
      refine lv_goto (tgt := 21) hx hb dX8_hasTrade_17 (by decide) ?_
      obtain rfl := so hf
      exact q_zret (Or.inr rfl) B hw hz hc0 hr hlk dX8_hasTrade_21
/-! SecondLife$Town.talentOf(I)I -/
def f_X8_talentOf (z : Sh) (h : Hp) (v0 : Nat) (v1 : Int32) : Option (Int32) :=
  if z.K v0 = 8 then
    if v1 < 0 then
      some (0 : Int32)
    else
      (gR z h 8 v0 6).bind fun a2 =>
      (aL z a2).bind fun x3 =>
      if x3 ≤ v1 then
        some (0 : Int32)
      else
        (gR z h 8 v0 6).bind fun a5 =>
        (ldI z h a5 v1).bind fun x6 =>
        some x6
  else none
theorem k_X8_talentOf {z : Sh} {h : Hp} {v0 : Nat} {v1 : Int32} {w : Int32} (hf : f_X8_talentOf z h v0 v1 = some w) : z.K v0 = 8 := by
  unfold f_X8_talentOf at hf
  exact (if_some hf).1
set_option maxHeartbeats 4000000 in
theorem c_X8_talentOf {l : Launch} {s0 : State} {E : Ev} (G : Gl s0 E) {z : Sh} {h : Hp} {v0 : Nat} {v1 : Int32} {r : Int32} (hf : f_X8_talentOf z h v0 v1 = some r) : Ct l s0 E yX8_talentOf cX8_talentOf 2 (some .int) 0 0 [.ref v0, .int v1] z h h (some (.int r)) := by
  refine Ct.of G (by decide) (Nat.le_of_ble_eq_true rfl) ?_
  intro p e s m below meth c ls B hw hz hc0 hr hlk hl
  have B : Bd p s0 s E m c cX8_talentOf 2 RX8 := B
  have hx := B.1
  have hb := B.2.1
  have hl : lv_has ls 2 [(0, .ref v0), (1, .int v1)] := hl
  unfold f_X8_talentOf at hf
  obtain ⟨_, hf⟩ := if_some hf
  refine lv_iload_n hx hb dX8_talentOf_0 rfl (lv_at hl 1 rfl) ?_
  refine lv_if_lt (tgt := 22) hx hb dX8_talentOf_1 (by decide) (fun c1 => ?_) (fun c1 => ?_)
  · have hf := (if_pos c1).symm.trans hf
    refine lv_iconst (v := 0) hx hb dX8_talentOf_22 (by decide) ?_
    obtain rfl := so hf
    exact q_iret B hw hz hc0 hr hlk dX8_talentOf_23
  · have hf := (if_neg c1).symm.trans hf
    refine lv_iload_n hx hb dX8_talentOf_4 rfl (lv_at hl 1 rfl) ?_
    refine lv_aload_n hx hb dX8_talentOf_5 rfl (lv_at hl 0 rfl) ?_
    obtain ⟨a2, e, hf⟩ := ob hf
    refine q_getR e B hw fd_8_6.1 fd_8_6.2.1 fd_8_6.2.2.1 fd_8_6.2.2.2.1 fd_8_6.2.2.2.2 rfl tw_1_72 dX8_talentOf_6 ?_
    obtain ⟨x3, e, hf⟩ := ob hf
    refine q_len e B hw dX8_talentOf_9 ?_
    refine lv_icmp_ge (tgt := 22) hx hb dX8_talentOf_10 (by decide) (fun c4 => ?_) (fun c4 => ?_)
    · have hf := (if_pos c4).symm.trans hf
      refine lv_iconst (v := 0) hx hb dX8_talentOf_22 (by decide) ?_
      obtain rfl := so hf
      exact q_iret B hw hz hc0 hr hlk dX8_talentOf_23
    · have hf := (if_neg c4).symm.trans hf
      refine lv_aload_n hx hb dX8_talentOf_13 rfl (lv_at hl 0 rfl) ?_
      obtain ⟨a5, e, hf⟩ := ob hf
      refine q_getR e B hw fd_8_6.1 fd_8_6.2.1 fd_8_6.2.2.1 fd_8_6.2.2.2.1 fd_8_6.2.2.2.2 rfl tw_1_72 dX8_talentOf_14 ?_
      refine lv_iload_n hx hb dX8_talentOf_17 rfl (lv_at hl 1 rfl) ?_
      obtain ⟨x6, e, hf⟩ := ob hf
      refine q_ldI e B hw dX8_talentOf_18 ?_
      refine lv_goto (tgt := 23) hx hb dX8_talentOf_19 (by decide) ?_
      obtain rfl := so hf
      exact q_iret B hw hz hc0 hr hlk dX8_talentOf_23
/-! SecondLife$Town.fearOf(I)I -/
def f_X8_fearOf (z : Sh) (h : Hp) (v0 : Nat) (v1 : Int32) : Option (Int32) :=
  if z.K v0 = 8 then
    if v1 < 0 then
      some (0 : Int32)
    else
      (gR z h 8 v0 7).bind fun a2 =>
      (aL z a2).bind fun x3 =>
      if x3 ≤ v1 then
        some (0 : Int32)
      else
        (gR z h 8 v0 7).bind fun a5 =>
        (ldI z h a5 v1).bind fun x6 =>
        some x6
  else none
theorem k_X8_fearOf {z : Sh} {h : Hp} {v0 : Nat} {v1 : Int32} {w : Int32} (hf : f_X8_fearOf z h v0 v1 = some w) : z.K v0 = 8 := by
  unfold f_X8_fearOf at hf
  exact (if_some hf).1
set_option maxHeartbeats 4000000 in
theorem c_X8_fearOf {l : Launch} {s0 : State} {E : Ev} (G : Gl s0 E) {z : Sh} {h : Hp} {v0 : Nat} {v1 : Int32} {r : Int32} (hf : f_X8_fearOf z h v0 v1 = some r) : Ct l s0 E yX8_fearOf cX8_fearOf 2 (some .int) 0 0 [.ref v0, .int v1] z h h (some (.int r)) := by
  refine Ct.of G (by decide) (Nat.le_of_ble_eq_true rfl) ?_
  intro p e s m below meth c ls B hw hz hc0 hr hlk hl
  have B : Bd p s0 s E m c cX8_fearOf 2 RX8 := B
  have hx := B.1
  have hb := B.2.1
  have hl : lv_has ls 2 [(0, .ref v0), (1, .int v1)] := hl
  unfold f_X8_fearOf at hf
  obtain ⟨_, hf⟩ := if_some hf
  refine lv_iload_n hx hb dX8_fearOf_0 rfl (lv_at hl 1 rfl) ?_
  refine lv_if_lt (tgt := 22) hx hb dX8_fearOf_1 (by decide) (fun c1 => ?_) (fun c1 => ?_)
  · have hf := (if_pos c1).symm.trans hf
    refine lv_iconst (v := 0) hx hb dX8_fearOf_22 (by decide) ?_
    obtain rfl := so hf
    exact q_iret B hw hz hc0 hr hlk dX8_fearOf_23
  · have hf := (if_neg c1).symm.trans hf
    refine lv_iload_n hx hb dX8_fearOf_4 rfl (lv_at hl 1 rfl) ?_
    refine lv_aload_n hx hb dX8_fearOf_5 rfl (lv_at hl 0 rfl) ?_
    obtain ⟨a2, e, hf⟩ := ob hf
    refine q_getR e B hw fd_8_7.1 fd_8_7.2.1 fd_8_7.2.2.1 fd_8_7.2.2.2.1 fd_8_7.2.2.2.2 rfl tw_1_73 dX8_fearOf_6 ?_
    obtain ⟨x3, e, hf⟩ := ob hf
    refine q_len e B hw dX8_fearOf_9 ?_
    refine lv_icmp_ge (tgt := 22) hx hb dX8_fearOf_10 (by decide) (fun c4 => ?_) (fun c4 => ?_)
    · have hf := (if_pos c4).symm.trans hf
      refine lv_iconst (v := 0) hx hb dX8_fearOf_22 (by decide) ?_
      obtain rfl := so hf
      exact q_iret B hw hz hc0 hr hlk dX8_fearOf_23
    · have hf := (if_neg c4).symm.trans hf
      refine lv_aload_n hx hb dX8_fearOf_13 rfl (lv_at hl 0 rfl) ?_
      obtain ⟨a5, e, hf⟩ := ob hf
      refine q_getR e B hw fd_8_7.1 fd_8_7.2.1 fd_8_7.2.2.1 fd_8_7.2.2.2.1 fd_8_7.2.2.2.2 rfl tw_1_73 dX8_fearOf_14 ?_
      refine lv_iload_n hx hb dX8_fearOf_17 rfl (lv_at hl 1 rfl) ?_
      obtain ⟨x6, e, hf⟩ := ob hf
      refine q_ldI e B hw dX8_fearOf_18 ?_
      refine lv_goto (tgt := 23) hx hb dX8_fearOf_19 (by decide) ?_
      obtain rfl := so hf
      exact q_iret B hw hz hc0 hr hlk dX8_fearOf_23
/-! SecondLife$Town.addPerson(II)V -/
def f_X8_addPerson (z : Sh) (h : Hp) (v0 : Nat) (v1 : Int32) (v2 : Int32) : Option (Hp) :=
  if z.K v0 = 8 then
    (gI z h 8 v0 2).bind fun x1 =>
    (gR z h 8 v0 6).bind fun a2 =>
    (aL z a2).bind fun x3 =>
    if x3 ≤ x1 then
      some h
    else
      (gI z h 8 v0 2).bind fun x5 =>
      (gR z h 8 v0 7).bind fun a6 =>
      (aL z a6).bind fun x7 =>
      if x7 ≤ x5 then
        some h
      else
        (gR z h 8 v0 6).bind fun a9 =>
        (gI z h 8 v0 2).bind fun x10 =>
        (stI z h a9 x10 v1).bind fun h11 =>
        (gR z h11 8 v0 7).bind fun a12 =>
        (gI z h11 8 v0 2).bind fun x13 =>
        (stI z h11 a12 x13 v2).bind fun h14 =>
        (gI z h14 8 v0 2).bind fun x15 =>
        (pI z h14 8 v0 2 (x15 + 1)).bind fun h16 =>
        some h16
  else none
theorem k_X8_addPerson {z : Sh} {h : Hp} {v0 : Nat} {v1 : Int32} {v2 : Int32} {w : Hp} (hf : f_X8_addPerson z h v0 v1 v2 = some w) : z.K v0 = 8 := by
  unfold f_X8_addPerson at hf
  exact (if_some hf).1
set_option maxHeartbeats 4000000 in
theorem c_X8_addPerson {l : Launch} {s0 : State} {E : Ev} (G : Gl s0 E) {z : Sh} {h : Hp} {v0 : Nat} {v1 : Int32} {v2 : Int32} {h' : Hp} (hf : f_X8_addPerson z h v0 v1 v2 = some h') : Ct l s0 E yX8_addPerson cX8_addPerson 3 none 0 0 [.ref v0, .int v1, .int v2] z h h' (none) := by
  refine Ct.of G (by decide) (Nat.le_of_ble_eq_true rfl) ?_
  intro p e s m below meth c ls B hw hz hc0 hr hlk hl
  have B : Bd p s0 s E m c cX8_addPerson 3 RX8 := B
  have hx := B.1
  have hb := B.2.1
  have hl : lv_has ls 3 [(0, .ref v0), (1, .int v1), (2, .int v2)] := hl
  unfold f_X8_addPerson at hf
  obtain ⟨_, hf⟩ := if_some hf
  refine lv_aload_n hx hb dX8_addPerson_0 rfl (lv_at hl 0 rfl) ?_
  obtain ⟨x1, e, hf⟩ := ob hf
  refine q_getI e B hw fd_8_2.1 fd_8_2.2.1 fd_8_2.2.2.1 fd_8_2.2.2.2.1 fd_8_2.2.2.2.2 rfl tw_1_60 dX8_addPerson_1 ?_
  refine lv_aload_n hx hb dX8_addPerson_4 rfl (lv_at hl 0 rfl) ?_
  obtain ⟨a2, e, hf⟩ := ob hf
  refine q_getR e B hw fd_8_6.1 fd_8_6.2.1 fd_8_6.2.2.1 fd_8_6.2.2.2.1 fd_8_6.2.2.2.2 rfl tw_1_72 dX8_addPerson_5 ?_
  obtain ⟨x3, e, hf⟩ := ob hf
  refine q_len e B hw dX8_addPerson_8 ?_
  refine lv_icmp_ge (tgt := 54) hx hb dX8_addPerson_9 (by decide) (fun c4 => ?_) (fun c4 => ?_)
  · have hf := (if_pos c4).symm.trans hf
    obtain rfl := so hf
    exact q_vret B hw hz hc0 hr hlk dX8_addPerson_54
  · have hf := (if_neg c4).symm.trans hf
    refine lv_aload_n hx hb dX8_addPerson_12 rfl (lv_at hl 0 rfl) ?_
    obtain ⟨x5, e, hf⟩ := ob hf
    refine q_getI e B hw fd_8_2.1 fd_8_2.2.1 fd_8_2.2.2.1 fd_8_2.2.2.2.1 fd_8_2.2.2.2.2 rfl tw_1_60 dX8_addPerson_13 ?_
    refine lv_aload_n hx hb dX8_addPerson_16 rfl (lv_at hl 0 rfl) ?_
    obtain ⟨a6, e, hf⟩ := ob hf
    refine q_getR e B hw fd_8_7.1 fd_8_7.2.1 fd_8_7.2.2.1 fd_8_7.2.2.2.1 fd_8_7.2.2.2.2 rfl tw_1_73 dX8_addPerson_17 ?_
    obtain ⟨x7, e, hf⟩ := ob hf
    refine q_len e B hw dX8_addPerson_20 ?_
    refine lv_icmp_ge (tgt := 54) hx hb dX8_addPerson_21 (by decide) (fun c8 => ?_) (fun c8 => ?_)
    · have hf := (if_pos c8).symm.trans hf
      obtain rfl := so hf
      exact q_vret B hw hz hc0 hr hlk dX8_addPerson_54
    · have hf := (if_neg c8).symm.trans hf
      refine lv_aload_n hx hb dX8_addPerson_24 rfl (lv_at hl 0 rfl) ?_
      obtain ⟨a9, e, hf⟩ := ob hf
      refine q_getR e B hw fd_8_6.1 fd_8_6.2.1 fd_8_6.2.2.1 fd_8_6.2.2.2.1 fd_8_6.2.2.2.2 rfl tw_1_72 dX8_addPerson_25 ?_
      refine lv_aload_n hx hb dX8_addPerson_28 rfl (lv_at hl 0 rfl) ?_
      obtain ⟨x10, e, hf⟩ := ob hf
      refine q_getI e B hw fd_8_2.1 fd_8_2.2.1 fd_8_2.2.2.1 fd_8_2.2.2.2.1 fd_8_2.2.2.2.2 rfl tw_1_60 dX8_addPerson_29 ?_
      refine lv_iload_n hx hb dX8_addPerson_32 rfl (lv_at hl 1 rfl) ?_
      obtain ⟨h11, e, hf⟩ := ob hf
      refine q_stI e B hw dX8_addPerson_33 (fun H locs hw => ?_)
      refine lv_aload_n hx hb dX8_addPerson_34 rfl (lv_at hl 0 rfl) ?_
      obtain ⟨a12, e, hf⟩ := ob hf
      refine q_getR e B hw fd_8_7.1 fd_8_7.2.1 fd_8_7.2.2.1 fd_8_7.2.2.2.1 fd_8_7.2.2.2.2 rfl tw_1_73 dX8_addPerson_35 ?_
      refine lv_aload_n hx hb dX8_addPerson_38 rfl (lv_at hl 0 rfl) ?_
      obtain ⟨x13, e, hf⟩ := ob hf
      refine q_getI e B hw fd_8_2.1 fd_8_2.2.1 fd_8_2.2.2.1 fd_8_2.2.2.2.1 fd_8_2.2.2.2.2 rfl tw_1_60 dX8_addPerson_39 ?_
      refine lv_iload_n hx hb dX8_addPerson_42 rfl (lv_at hl 2 rfl) ?_
      obtain ⟨h14, e, hf⟩ := ob hf
      refine q_stI e B hw dX8_addPerson_43 (fun H locs hw => ?_)
      refine lv_aload_n hx hb dX8_addPerson_44 rfl (lv_at hl 0 rfl) ?_
      refine lv_dup hx hb dX8_addPerson_45 rfl ?_
      obtain ⟨x15, e, hf⟩ := ob hf
      refine q_getI e B hw fd_8_2.1 fd_8_2.2.1 fd_8_2.2.2.1 fd_8_2.2.2.2.1 fd_8_2.2.2.2.2 rfl tw_1_60 dX8_addPerson_46 ?_
      refine lv_iconst (v := 1) hx hb dX8_addPerson_49 (by decide) ?_
      refine lv_iadd hx hb dX8_addPerson_50 ?_
      obtain ⟨h16, e, hf⟩ := ob hf
      refine q_putI e B hw fd_8_2.1 fd_8_2.2.1 fd_8_2.2.2.1 fd_8_2.2.2.2.1 fd_8_2.2.2.2.2 rfl rfl (tyX8_ok 2 (by decide)) tyX8 tyX8_ok nmX8 tw_1_60 dX8_addPerson_51 (fun H locs hw => ?_)
      obtain rfl := so hf
      exact q_vret B hw hz hc0 hr hlk dX8_addPerson_54
/-! SecondLife$Tray.<init>()V -/
def f_X9_init (z : Sh) (h : Hp) (v0 : Nat) : Option (Hp × Sh) :=
  if z.K v0 = 9 then
    gd2 z <|
    (nwA z h 15 40).bind fun (a1, h2, z3) =>
    gd2 z3 <|
    (pR z3 h2 9 v0 0 (some a1)).bind fun h4 =>
    (pZ z3 h4 9 v0 1 0).bind fun h5 =>
    (pI z3 h5 9 v0 2 0).bind fun h6 =>
    (pI z3 h6 9 v0 3 0).bind fun h7 =>
    some (h7, z3)
  else none
theorem k_X9_init {z : Sh} {h : Hp} {v0 : Nat} {w : Hp × Sh} (hf : f_X9_init z h v0 = some w) : z.K v0 = 9 := by
  unfold f_X9_init at hf
  exact (if_some hf).1
theorem mo_X9_init {z : Sh} {h : Hp} {v0 : Nat} {h' : Hp} {zE : Sh} (hf : f_X9_init z h v0 = some (h', zE)) : z.sz ≤ zE.sz ∧ z.sl ≤ zE.sl := by
  unfold f_X9_init at hf
  exact (gd2_some (if_some hf).2).1
set_option maxHeartbeats 4000000 in
theorem c_X9_init {l : Launch} {s0 : State} {E : Ev} (G : Gl s0 E) {z : Sh} {h : Hp} {v0 : Nat} {h' : Hp} {zE : Sh} (hf : f_X9_init z h v0 = some (h', zE)) : Ca l s0 E yX9_init cX9_init 1 none 1 24 [.ref v0] z zE h h' (none) := by
  refine Ca.of G (by decide +kernel) (Nat.le_of_ble_eq_true rfl) (mo_X9_init hf) ?_
  intro p e s m below meth c ls B hw hM hr hlk hnm0 hl
  have B : Bd p s0 s E m c cX9_init 1 RX9 := B
  have hx := B.1
  have hb := B.2.1
  have hl : lv_has ls 1 [(0, .ref v0)] := hl
  have hin : meth.name = "<init>" := hnm0
  unfold f_X9_init at hf
  obtain ⟨_, hf⟩ := if_some hf
  obtain ⟨_, hf⟩ := gd2_some hf
  refine lv_aload_n hx hb dX9_init_0 rfl (lv_at hl 0 rfl) ?_
  refine q_obj B hl.1 tw_2_84 tw_1_29 tw_1_30 (Nat.le_of_ble_eq_true rfl) (Nat.le_of_ble_eq_true rfl) dX9_init_1 ?_
  refine lv_aload_n hx hb dX9_init_4 rfl (lv_at hl 0 rfl) ?_
  refine lv_bipush (v := 40) hx hb dX9_init_5 (by decide) ?_
  obtain ⟨⟨a1, h2, z3⟩, e, hf⟩ := ob hf
  obtain ⟨hg, hf⟩ := gd2_some hf
  refine q_newA (atype := .long) (ty := .long) (t0 := 2) e hg B hw hM (by decide) rfl rfl rfl (cfn_15 E _ _) arn_15 tw_2_42 dX9_init_7 (fun H locs hw hM => ?_)
  obtain ⟨h4, e, hf⟩ := ob hf
  refine q_putRF e B hw hin fd_9_0.1 fd_9_0.2.1 fd_9_0.2.2.1 fd_9_0.2.2.2.1 fd_9_0.2.2.2.2 rfl rfl rfl (tyX9_ok 0 (by decide)) (Or.inr ⟨_, rfl⟩) tyX9 tyX9_ok nmX9 tw_2_85 dX9_init_9 (fun H locs hw => ?_)
  refine lv_aload_n hx hb dX9_init_12 rfl (lv_at hl 0 rfl) ?_
  refine lv_iconst (v := 0) hx hb dX9_init_13 (by decide) ?_
  obtain ⟨h5, e, hf⟩ := ob hf
  refine q_putZ e B hw fd_9_1.1 fd_9_1.2.1 fd_9_1.2.2.1 fd_9_1.2.2.2.1 fd_9_1.2.2.2.2 rfl rfl (tyX9_ok 1 (by decide)) tyX9 tyX9_ok nmX9 tw_2_86 dX9_init_14 (fun H locs hw => ?_)
  refine lv_aload_n hx hb dX9_init_17 rfl (lv_at hl 0 rfl) ?_
  refine lv_iconst (v := 0) hx hb dX9_init_18 (by decide) ?_
  obtain ⟨h6, e, hf⟩ := ob hf
  refine q_putI e B hw fd_9_2.1 fd_9_2.2.1 fd_9_2.2.2.1 fd_9_2.2.2.2.1 fd_9_2.2.2.2.2 rfl rfl (tyX9_ok 2 (by decide)) tyX9 tyX9_ok nmX9 tw_2_88 dX9_init_19 (fun H locs hw => ?_)
  refine lv_aload_n hx hb dX9_init_22 rfl (lv_at hl 0 rfl) ?_
  refine lv_iconst (v := 0) hx hb dX9_init_23 (by decide) ?_
  obtain ⟨h7, e, hf⟩ := ob hf
  refine q_putI e B hw fd_9_3.1 fd_9_3.2.1 fd_9_3.2.2.1 fd_9_3.2.2.2.1 fd_9_3.2.2.2.2 rfl rfl (tyX9_ok 3 (by decide)) tyX9 tyX9_ok nmX9 tw_2_89 dX9_init_24 (fun H locs hw => ?_)
  obtain ⟨rfl, rfl⟩ := so2 hf
  exact q_vret B hw hM.hz hM.hc0 hr hlk dX9_init_27
/-! SecondLife$Tray.number(I)J -/
def f_X9_number (z : Sh) (h : Hp) (v0 : Nat) (v1 : Int32) : Option (Int64) :=
  if z.K v0 = 9 then
    if v1 < 0 then
      some (0 : Int64)
    else
      (gI z h 9 v0 3).bind fun x2 =>
      if x2 ≤ v1 then
        some (0 : Int64)
      else
        (gR z h 9 v0 0).bind fun a4 =>
        (aL z a4).bind fun x5 =>
        if x5 ≤ v1 then
          some (0 : Int64)
        else
          (gR z h 9 v0 0).bind fun a7 =>
          (ldJ z h a7 v1).bind fun x8 =>
          some x8
  else none
theorem k_X9_number {z : Sh} {h : Hp} {v0 : Nat} {v1 : Int32} {w : Int64} (hf : f_X9_number z h v0 v1 = some w) : z.K v0 = 9 := by
  unfold f_X9_number at hf
  exact (if_some hf).1
set_option maxHeartbeats 4000000 in
theorem c_X9_number {l : Launch} {s0 : State} {E : Ev} (G : Gl s0 E) {z : Sh} {h : Hp} {v0 : Nat} {v1 : Int32} {r : Int64} (hf : f_X9_number z h v0 v1 = some r) : Ct l s0 E yX9_number cX9_number 2 (some .long) 0 0 [.ref v0, .int v1] z h h (some (.long r)) := by
  refine Ct.of G (by decide) (Nat.le_of_ble_eq_true rfl) ?_
  intro p e s m below meth c ls B hw hz hc0 hr hlk hl
  have B : Bd p s0 s E m c cX9_number 2 RX9 := B
  have hx := B.1
  have hb := B.2.1
  have hl : lv_has ls 2 [(0, .ref v0), (1, .int v1)] := hl
  unfold f_X9_number at hf
  obtain ⟨_, hf⟩ := if_some hf
  refine lv_iload_n hx hb dX9_number_0 rfl (lv_at hl 1 rfl) ?_
  refine lv_if_lt (tgt := 30) hx hb dX9_number_1 (by decide) (fun c1 => ?_) (fun c1 => ?_)
  · have hf := (if_pos c1).symm.trans hf
    refine lv_lconst (v := 0) hx hb dX9_number_30 (by decide) ?_
    obtain rfl := so hf
    exact q_lret B hw hz hc0 hr hlk dX9_number_31
  · have hf := (if_neg c1).symm.trans hf
    refine lv_iload_n hx hb dX9_number_4 rfl (lv_at hl 1 rfl) ?_
    refine lv_aload_n hx hb dX9_number_5 rfl (lv_at hl 0 rfl) ?_
    obtain ⟨x2, e, hf⟩ := ob hf
    refine q_getI e B hw fd_9_3.1 fd_9_3.2.1 fd_9_3.2.2.1 fd_9_3.2.2.2.1 fd_9_3.2.2.2.2 rfl tw_2_89 dX9_number_6 ?_
    refine lv_icmp_ge (tgt := 30) hx hb dX9_number_9 (by decide) (fun c3 => ?_) (fun c3 => ?_)
    · have hf := (if_pos c3).symm.trans hf
      refine lv_lconst (v := 0) hx hb dX9_number_30 (by decide) ?_
      obtain rfl := so hf
      exact q_lret B hw hz hc0 hr hlk dX9_number_31
    · have hf := (if_neg c3).symm.trans hf
      refine lv_iload_n hx hb dX9_number_12 rfl (lv_at hl 1 rfl) ?_
      refine lv_aload_n hx hb dX9_number_13 rfl (lv_at hl 0 rfl) ?_
      obtain ⟨a4, e, hf⟩ := ob hf
      refine q_getR e B hw fd_9_0.1 fd_9_0.2.1 fd_9_0.2.2.1 fd_9_0.2.2.2.1 fd_9_0.2.2.2.2 rfl tw_2_85 dX9_number_14 ?_
      obtain ⟨x5, e, hf⟩ := ob hf
      refine q_len e B hw dX9_number_17 ?_
      refine lv_icmp_ge (tgt := 30) hx hb dX9_number_18 (by decide) (fun c6 => ?_) (fun c6 => ?_)
      · have hf := (if_pos c6).symm.trans hf
        refine lv_lconst (v := 0) hx hb dX9_number_30 (by decide) ?_
        obtain rfl := so hf
        exact q_lret B hw hz hc0 hr hlk dX9_number_31
      · have hf := (if_neg c6).symm.trans hf
        refine lv_aload_n hx hb dX9_number_21 rfl (lv_at hl 0 rfl) ?_
        obtain ⟨a7, e, hf⟩ := ob hf
        refine q_getR e B hw fd_9_0.1 fd_9_0.2.1 fd_9_0.2.2.1 fd_9_0.2.2.2.1 fd_9_0.2.2.2.2 rfl tw_2_85 dX9_number_22 ?_
        refine lv_iload_n hx hb dX9_number_25 rfl (lv_at hl 1 rfl) ?_
        obtain ⟨x8, e, hf⟩ := ob hf
        refine q_ldJ e B hw dX9_number_26 ?_
        refine lv_goto (tgt := 31) hx hb dX9_number_27 (by decide) ?_
        obtain rfl := so hf
        exact q_lret B hw hz hc0 hr hlk dX9_number_31
/-! SecondLife$Tray.cut(J)J -/
def f_X9_cut (z : Sh) (h : Hp) (v0 : Nat) (v1 : Int64) : Option (Int64) :=
  if z.K v0 = 9 then
    (gI z h 9 v0 2).bind fun x1 =>
    if x1 = 0 then
      some (Int32.toInt64 ((Int32.toInt8 (Int64.toInt32 v1)).toInt32))
    else
      (gI z h 9 v0 2).bind fun x3 =>
      if x3 = 1 then
        some (Int32.toInt64 ((Int32.toInt16 (Int64.toInt32 v1)).toInt32))
      else
        (gI z h 9 v0 2).bind fun x5 =>
        if x5 = 2 then
          some (Int32.toInt64 (Int64.toInt32 v1))
        else
          some v1
  else none
theorem k_X9_cut {z : Sh} {h : Hp} {v0 : Nat} {v1 : Int64} {w : Int64} (hf : f_X9_cut z h v0 v1 = some w) : z.K v0 = 9 := by
  unfold f_X9_cut at hf
  exact (if_some hf).1
set_option maxHeartbeats 4000000 in
theorem c_X9_cut {l : Launch} {s0 : State} {E : Ev} (G : Gl s0 E) {z : Sh} {h : Hp} {v0 : Nat} {v1 : Int64} {r : Int64} (hf : f_X9_cut z h v0 v1 = some r) : Ct l s0 E yX9_cut cX9_cut 3 (some .long) 0 0 [.ref v0, .long v1] z h h (some (.long r)) := by
  refine Ct.of G (by decide) (Nat.le_of_ble_eq_true rfl) ?_
  intro p e s m below meth c ls B hw hz hc0 hr hlk hl
  have B : Bd p s0 s E m c cX9_cut 3 RX9 := B
  have hx := B.1
  have hb := B.2.1
  have hl : lv_has ls 3 [(0, .ref v0), (1, .long v1)] := hl
  unfold f_X9_cut at hf
  obtain ⟨_, hf⟩ := if_some hf
  refine lv_aload_n hx hb dX9_cut_0 rfl (lv_at hl 0 rfl) ?_
  obtain ⟨x1, e, hf⟩ := ob hf
  refine q_getI e B hw fd_9_2.1 fd_9_2.2.1 fd_9_2.2.2.1 fd_9_2.2.2.2.1 fd_9_2.2.2.2.2 rfl tw_2_88 dX9_cut_1 ?_
  refine lv_if_ne (tgt := 12) hx hb dX9_cut_4 (by decide) (fun c2 => ?_) (fun c2 => ?_)
  · have hf := (if_neg c2).symm.trans hf
    refine lv_aload_n hx hb dX9_cut_12 rfl (lv_at hl 0 rfl) ?_
    obtain ⟨x3, e, hf⟩ := ob hf
    refine q_getI e B hw fd_9_2.1 fd_9_2.2.1 fd_9_2.2.2.1 fd_9_2.2.2.2.1 fd_9_2.2.2.2.2 rfl tw_2_88 dX9_cut_13 ?_
    refine lv_iconst (v := 1) hx hb dX9_cut_16 (by decide) ?_
    refine lv_icmp_ne (tgt := 25) hx hb dX9_cut_17 (by decide) (fun c4 => ?_) (fun c4 => ?_)
    · have hf := (if_neg c4).symm.trans hf
      refine lv_aload_n hx hb dX9_cut_25 rfl (lv_at hl 0 rfl) ?_
      obtain ⟨x5, e, hf⟩ := ob hf
      refine q_getI e B hw fd_9_2.1 fd_9_2.2.1 fd_9_2.2.2.1 fd_9_2.2.2.2.1 fd_9_2.2.2.2.2 rfl tw_2_88 dX9_cut_26 ?_
      refine lv_iconst (v := 2) hx hb dX9_cut_29 (by decide) ?_
      refine lv_icmp_ne (tgt := 39) hx hb dX9_cut_30 (by decide) (fun c6 => ?_) (fun c6 => ?_)
      · have hf := (if_neg c6).symm.trans hf
        refine lv_lload_n hx hb dX9_cut_39 rfl (lv_at hl 1 rfl) ?_
        obtain rfl := so hf
        exact q_lret B hw hz hc0 hr hlk dX9_cut_40
      · have hf := (if_pos c6).symm.trans hf
        refine lv_lload_n hx hb dX9_cut_33 rfl (lv_at hl 1 rfl) ?_
        refine lv_l2i (v := (Int64.toInt32 v1)) hx hb dX9_cut_34 rfl ?_
        refine lv_i2l (v := (Int32.toInt64 (Int64.toInt32 v1))) hx hb dX9_cut_35 rfl ?_
        refine lv_goto (tgt := 40) hx hb dX9_cut_36 (by decide) ?_
        obtain rfl := so hf
        exact q_lret B hw hz hc0 hr hlk dX9_cut_40
    · have hf := (if_pos c4).symm.trans hf
      refine lv_lload_n hx hb dX9_cut_20 rfl (lv_at hl 1 rfl) ?_
      refine lv_l2i (v := (Int64.toInt32 v1)) hx hb dX9_cut_21 rfl ?_
      refine lv_i2s (v := ((Int32.toInt16 (Int64.toInt32 v1)).toInt32)) hx hb dX9_cut_22 rfl ?_
      refine lv_i2l (v := (Int32.toInt64 ((Int32.toInt16 (Int64.toInt32 v1)).toInt32))) hx hb dX9_cut_23 rfl ?_
      obtain rfl := so hf
      exact q_lret B hw hz hc0 hr hlk dX9_cut_24
  · have hf := (if_pos c2).symm.trans hf
    refine lv_lload_n hx hb dX9_cut_7 rfl (lv_at hl 1 rfl) ?_
    refine lv_l2i (v := (Int64.toInt32 v1)) hx hb dX9_cut_8 rfl ?_
    refine lv_i2b (v := ((Int32.toInt8 (Int64.toInt32 v1)).toInt32)) hx hb dX9_cut_9 rfl ?_
    refine lv_i2l (v := (Int32.toInt64 ((Int32.toInt8 (Int64.toInt32 v1)).toInt32))) hx hb dX9_cut_10 rfl ?_
    obtain rfl := so hf
    exact q_lret B hw hz hc0 hr hlk dX9_cut_11
/-! SecondLife$Ways.<init>(LSecondLife$Reckoner;)V -/
def f_X10_init (z : Sh) (h : Hp) (v0 : Nat) (v1 : Nat) : Option (Hp × Sh) :=
  if z.K v0 = 10 then
    gd2 z <|
    (nwA z h 17 10).bind fun (a1, h2, z3) =>
    gd2 z3 <|
    (pR z3 h2 10 v0 1 (some a1)).bind fun h4 =>
    (nwA z3 h4 14 7).bind fun (a5, h6, z7) =>
    gd2 z7 <|
    (pR z7 h6 10 v0 2 (some a5)).bind fun h8 =>
    (nwO z7 h8 8).bind fun (a9, h10, z11) =>
    gd2 z11 <|
    (f_X8_init z11 h10 a9).bind fun (h12, z13) =>
    gd2 z13 <|
    (pR z13 h12 10 v0 3 (some a9)).bind fun h14 =>
    (pI z13 h14 10 v0 4 1).bind fun h15 =>
    (pI z13 h15 10 v0 5 0).bind fun h16 =>
    (pZ z13 h16 10 v0 6 1).bind fun h17 =>
    (pI z13 h17 10 v0 7 0).bind fun h18 =>
    (pI z13 h18 10 v0 8 0).bind fun h19 =>
    (pR z13 h19 10 v0 0 (some v1)).bind fun h20 =>
    some (h20, z13)
  else none
theorem k_X10_init {z : Sh} {h : Hp} {v0 : Nat} {v1 : Nat} {w : Hp × Sh} (hf : f_X10_init z h v0 v1 = some w) : z.K v0 = 10 := by
  unfold f_X10_init at hf
  exact (if_some hf).1
theorem mo_X10_init {z : Sh} {h : Hp} {v0 : Nat} {v1 : Nat} {h' : Hp} {zE : Sh} (hf : f_X10_init z h v0 v1 = some (h', zE)) : z.sz ≤ zE.sz ∧ z.sl ≤ zE.sl := by
  unfold f_X10_init at hf
  exact (gd2_some (if_some hf).2).1
set_option maxHeartbeats 4000000 in
theorem c_X10_init {l : Launch} {s0 : State} {E : Ev} (G : Gl s0 E) {z : Sh} {h : Hp} {v0 : Nat} {v1 : Nat} {h' : Hp} {zE : Sh} (hf : f_X10_init z h v0 v1 = some (h', zE)) : Ca l s0 E yX10_init cX10_init 2 none 2 44 [.ref v0, .ref v1] z zE h h' (none) := by
  refine Ca.of G (by decide +kernel) (Nat.le_of_ble_eq_true rfl) (mo_X10_init hf) ?_
  intro p e s m below meth c ls B hw hM hr hlk hnm0 hl
  have B : Bd p s0 s E m c cX10_init 2 RX10 := B
  have hx := B.1
  have hb := B.2.1
  have hl : lv_has ls 2 [(0, .ref v0), (1, .ref v1)] := hl
  have hin : meth.name = "<init>" := hnm0
  unfold f_X10_init at hf
  obtain ⟨_, hf⟩ := if_some hf
  obtain ⟨_, hf⟩ := gd2_some hf
  refine lv_aload_n hx hb dX10_init_0 rfl (lv_at hl 0 rfl) ?_
  refine q_obj B hl.1 tw_1_222 tw_1_29 tw_1_30 (Nat.le_of_ble_eq_true rfl) (Nat.le_of_ble_eq_true rfl) dX10_init_1 ?_
  refine lv_aload_n hx hb dX10_init_4 rfl (lv_at hl 0 rfl) ?_
  refine lv_bipush (v := 10) hx hb dX10_init_5 (by decide) ?_
  obtain ⟨⟨a1, h2, z3⟩, e, hf⟩ := ob hf
  obtain ⟨hg, hf⟩ := gd2_some hf
  refine q_newQ (t0 := 4) e hg B hw hM (by decide) (by decide) rfl rfl tw_1_223 (va_AO.moved B.2.2.2.2.1.alike (va_AO.of (G.2.1.choose_spec _ tw_1_224))) dX10_init_7 (fun H locs hw hM => ?_)
  obtain ⟨h4, e, hf⟩ := ob hf
  refine q_putRF e B hw hin fd_10_1.1 fd_10_1.2.1 fd_10_1.2.2.1 fd_10_1.2.2.2.1 fd_10_1.2.2.2.2 rfl rfl rfl (tyX10_ok 1 (by decide)) (Or.inr ⟨_, rfl⟩) tyX10 tyX10_ok nmX10 tw_1_228 dX10_init_10 (fun H locs hw => ?_)
  refine lv_aload_n hx hb dX10_init_13 rfl (lv_at hl 0 rfl) ?_
  refine lv_bipush (v := 7) hx hb dX10_init_14 (by decide) ?_
  obtain ⟨⟨a5, h6, z7⟩, e, hf⟩ := ob hf
  obtain ⟨hg, hf⟩ := gd2_some hf
  refine q_newA (atype := .int) (ty := .int) (t0 := 1) e hg B hw hM (by decide) rfl rfl rfl (cfn_14 E _ _) arn_14 tw_1_102 dX10_init_16 (fun H locs hw hM => ?_)
  obtain ⟨h8, e, hf⟩ := ob hf
  refine q_putRF e B hw hin fd_10_2.1 fd_10_2.2.1 fd_10_2.2.2.1 fd_10_2.2.2.2.1 fd_10_2.2.2.2.2 rfl rfl rfl (tyX10_ok 2 (by decide)) (Or.inr ⟨_, rfl⟩) tyX10 tyX10_ok nmX10 tw_1_229 dX10_init_18 (fun H locs hw => ?_)
  refine lv_aload_n hx hb dX10_init_21 rfl (lv_at hl 0 rfl) ?_
  obtain ⟨⟨a9, h10, z11⟩, e, hf⟩ := ob hf
  obtain ⟨hg, hf⟩ := gd2_some hf
  refine q_newO e hg B hw hM (by decide) (ci := 8) rfl rfl tyX8 tyX8_ok dfX8 tw_1_225 tw_1_38 tw_1_3 dX10_init_22 (fun H locs hw hM => ?_)
  refine lv_dup hx hb dX10_init_25 rfl ?_
  obtain ⟨⟨h12, z13⟩, e, hf⟩ := ob hf
  obtain ⟨hg, hf⟩ := gd2_some hf
  refine q_callINA (As := []) (rest := [.ref a9, .ref v0]) (c_X8_init G e) (mo_X8_init e) hg B hw hM rfl my_X8_init mv_X8_init tw_1_226 ⟨Nat.le_of_ble_eq_true rfl, Nat.le_of_ble_eq_true rfl⟩ rfl hl.1 rfl (Nat.le_of_ble_eq_true rfl) dX10_init_26 (fun H locs hw hM => ?_)
  obtain ⟨h14, e, hf⟩ := ob hf
  refine q_putR e B hw fd_10_3.1 fd_10_3.2.1 fd_10_3.2.2.1 fd_10_3.2.2.2.1 fd_10_3.2.2.2.2 rfl rfl (tyX10_ok 3 (by decide)) (Or.inl ⟨_, rfl⟩) tyX10 tyX10_ok nmX10 tw_1_230 dX10_init_29 (fun H locs hw => ?_)
  refine lv_aload_n hx hb dX10_init_32 rfl (lv_at hl 0 rfl) ?_
  refine lv_iconst (v := 1) hx hb dX10_init_33 (by decide) ?_
  obtain ⟨h15, e, hf⟩ := ob hf
  refine q_putI e B hw fd_10_4.1 fd_10_4.2.1 fd_10_4.2.2.1 fd_10_4.2.2.2.1 fd_10_4.2.2.2.2 rfl rfl (tyX10_ok 4 (by decide)) tyX10 tyX10_ok nmX10 tw_1_233 dX10_init_34 (fun H locs hw => ?_)
  refine lv_aload_n hx hb dX10_init_37 rfl (lv_at hl 0 rfl) ?_
  refine lv_iconst (v := 0) hx hb dX10_init_38 (by decide) ?_
  obtain ⟨h16, e, hf⟩ := ob hf
  refine q_putI e B hw fd_10_5.1 fd_10_5.2.1 fd_10_5.2.2.1 fd_10_5.2.2.2.1 fd_10_5.2.2.2.2 rfl rfl (tyX10_ok 5 (by decide)) tyX10 tyX10_ok nmX10 tw_1_234 dX10_init_39 (fun H locs hw => ?_)
  refine lv_aload_n hx hb dX10_init_42 rfl (lv_at hl 0 rfl) ?_
  refine lv_iconst (v := 1) hx hb dX10_init_43 (by decide) ?_
  obtain ⟨h17, e, hf⟩ := ob hf
  refine q_putZ e B hw fd_10_6.1 fd_10_6.2.1 fd_10_6.2.2.1 fd_10_6.2.2.2.1 fd_10_6.2.2.2.2 rfl rfl (tyX10_ok 6 (by decide)) tyX10 tyX10_ok nmX10 tw_1_235 dX10_init_44 (fun H locs hw => ?_)
  refine lv_aload_n hx hb dX10_init_47 rfl (lv_at hl 0 rfl) ?_
  refine lv_iconst (v := 0) hx hb dX10_init_48 (by decide) ?_
  obtain ⟨h18, e, hf⟩ := ob hf
  refine q_putI e B hw fd_10_7.1 fd_10_7.2.1 fd_10_7.2.2.1 fd_10_7.2.2.2.1 fd_10_7.2.2.2.2 rfl rfl (tyX10_ok 7 (by decide)) tyX10 tyX10_ok nmX10 tw_1_237 dX10_init_49 (fun H locs hw => ?_)
  refine lv_aload_n hx hb dX10_init_52 rfl (lv_at hl 0 rfl) ?_
  refine lv_iconst (v := 0) hx hb dX10_init_53 (by decide) ?_
  obtain ⟨h19, e, hf⟩ := ob hf
  refine q_putI e B hw fd_10_8.1 fd_10_8.2.1 fd_10_8.2.2.1 fd_10_8.2.2.2.1 fd_10_8.2.2.2.2 rfl rfl (tyX10_ok 8 (by decide)) tyX10 tyX10_ok nmX10 tw_2_0 dX10_init_54 (fun H locs hw => ?_)
  refine lv_aload_n hx hb dX10_init_57 rfl (lv_at hl 0 rfl) ?_
  refine lv_aload_n hx hb dX10_init_58 rfl (lv_at hl 1 rfl) ?_
  obtain ⟨h20, e, hf⟩ := ob hf
  refine q_putRF e B hw hin fd_10_0.1 fd_10_0.2.1 fd_10_0.2.2.1 fd_10_0.2.2.2.1 fd_10_0.2.2.2.2 rfl rfl rfl (tyX10_ok 0 (by decide)) (Or.inl ⟨_, rfl⟩) tyX10 tyX10_ok nmX10 tw_1_227 dX10_init_59 (fun H locs hw => ?_)
  obtain ⟨rfl, rfl⟩ := so2 hf
  exact q_vret B hw hM.hz hM.hc0 hr hlk dX10_init_62
/-! SecondLife$Ways.standOf(LSecondLife$People;I)I -/
def f_X10_standOf_51 (z : Sh) (h : Hp) (v0 : Nat) (v1 : Int32) (v2 : Int32) (u0 : Int32) : Option (Int32) :=
  (f_X5_part z h v0 v1 0).bind fun x1 =>
  some ((((v2 * 7) + x1) * 25) + u0)
def f_X10_standOf_22 (z : Sh) (h : Hp) (v0 : Nat) (v1 : Int32) (u0 : Int32) : Option (Int32) :=
  (f_X5_part z h v0 v1 3).bind fun x1 =>
  if x1 = 9 then
    f_X10_standOf_51 z h v0 v1 u0 0
  else
    (f_X5_part z h v0 v1 4).bind fun x3 =>
    f_X10_standOf_51 z h v0 v1 u0 ((x1 * 6) + x3)
def f_X10_standOf (z : Sh) (h : Hp) (v0 : Nat) (v1 : Int32) : Option (Int32) :=
  (f_X5_part z h v0 v1 1).bind fun x1 =>
  if x1 = 2 then
    (f_X5_part z h v0 v1 5).bind fun x3 =>
    f_X10_standOf_22 z h v0 v1 (1 + x3)
  else
    f_X10_standOf_22 z h v0 v1 0
set_option maxHeartbeats 4000000 in
theorem w_X10_standOf_51 {p : Program} {l : Launch} {e : Env} {s : State} {m : MethodId} {args : Array Value} {below : List Frame} {meth : Method} {c : Code} {s0 : State} {E : Ev} {z : Sh} {h : Hp} {r : Int32} (G : Gl s0 E) (B : Bd p s0 s E m c cX10_standOf 5 RX10) (hz : s0.heap.size ≤ z.sz) (hc0 : s.heap.size + 0 = z.sz) (hr : meth.sig.returnType = (some .int)) (hlk : meth.locks = false) : ∀ (v0 : Nat) (v1 : Int32) (v2 : Int32) (u0 : Int32) (H : Heap) (locs : List Loc) (ls : Array Slot), Pw s0 s E z h H locs → lv_has ls 5 [(0, .ref v0), (1, .int v1), (2, .int v2)] → f_X10_standOf_51 z h v0 v1 v2 u0 = some r → W p l e (rmO 1 23) s m args below meth c H locs 0 0 (Zt below s0 E z h (some (.int r)) args s 0 0) (F0 m 51 ls [.int u0]) := by
  have hx := B.1
  have hb := B.2.1
  intro v0 v1 v2 u0 H locs ls hw hl hf
  unfold f_X10_standOf_51 at hf
  refine lv_istore (lv' := [(4, .int u0), (0, .ref v0), (1, .int v1), (2, .int v2)]) hx hb dX10_standOf_51 hl (by decide) rfl (fun ls hl => ?_)
  refine lv_iload_n hx hb dX10_standOf_53 rfl (lv_at hl 3 rfl) ?_
  refine lv_bipush (v := 7) hx hb dX10_standOf_54 (by decide) ?_
  refine lv_imul hx hb dX10_standOf_56 ?_
  refine lv_aload_n hx hb dX10_standOf_57 rfl (lv_at hl 1 rfl) ?_
  refine lv_iload_n hx hb dX10_standOf_58 rfl (lv_at hl 2 rfl) ?_
  refine lv_iconst (v := 0) hx hb dX10_standOf_59 (by decide) ?_
  obtain ⟨x1, e, hf⟩ := ob hf
  refine q_callVN (As := [.int v1, .int 0]) (rest := [.int (v2 * 7)]) (st1 := [.int x1, .int (v2 * 7)]) (c_X5_part G e) B hw hz hc0 (k_X5_part e) (by decide) (ci := 5) rfl rfl my_X5_part mv_X5_part tw_4_157 ⟨Nat.le_of_ble_eq_true rfl, Nat.le_of_ble_eq_true rfl⟩ ⟨Nat.zero_le _, Nat.zero_le _⟩ rfl hl.1 rfl rfl (Nat.le_of_ble_eq_true rfl) dX10_standOf_60 (fun H locs hw => ?_)
  refine lv_iadd hx hb dX10_standOf_63 ?_
  refine lv_bipush (v := 25) hx hb dX10_standOf_64 (by decide) ?_
  refine lv_imul hx hb dX10_standOf_66 ?_
  refine lv_iload hx hb dX10_standOf_67 (lv_at hl 0 rfl) ?_
  refine lv_iadd hx hb dX10_standOf_69 ?_
  obtain rfl := so hf
  exact q_iret B hw hz hc0 hr hlk dX10_standOf_70
set_option maxHeartbeats 4000000 in
theorem w_X10_standOf_22 {p : Program} {l : Launch} {e : Env} {s : State} {m : MethodId} {args : Array Value} {below : List Frame} {meth : Method} {c : Code} {s0 : State} {E : Ev} {z : Sh} {h : Hp} {r : Int32} (G : Gl s0 E) (B : Bd p s0 s E m c cX10_standOf 5 RX10) (hz : s0.heap.size ≤ z.sz) (hc0 : s.heap.size + 0 = z.sz) (hr : meth.sig.returnType = (some .int)) (hlk : meth.locks = false) : ∀ (v0 : Nat) (v1 : Int32) (u0 : Int32) (H : Heap) (locs : List Loc) (ls : Array Slot), Pw s0 s E z h H locs → lv_has ls 5 [(0, .ref v0), (1, .int v1)] → f_X10_standOf_22 z h v0 v1 u0 = some r → W p l e (rmO 1 23) s m args below meth c H locs 0 0 (Zt below s0 E z h (some (.int r)) args s 0 0) (F0 m 22 ls [.int u0]) := by
  have hx := B.1
  have hb := B.2.1
  intro v0 v1 u0 H locs ls hw hl hf
  unfold f_X10_standOf_22 at hf
  refine lv_istore_n (lv' := [(2, .int u0), (0, .ref v0), (1, .int v1)]) hx hb dX10_standOf_22 rfl hl (by decide) rfl (fun ls hl => ?_)
  refine lv_aload_n hx hb dX10_standOf_23 rfl (lv_at hl 1 rfl) ?_
  refine lv_iload_n hx hb dX10_standOf_24 rfl (lv_at hl 2 rfl) ?_
  refine lv_iconst (v := 3) hx hb dX10_standOf_25 (by decide) ?_
  obtain ⟨x1, e, hf⟩ := ob hf
  refine q_callVN (As := [.int v1, .int 3]) (rest := []) (st1 := [.int x1]) (c_X5_part G e) B hw hz hc0 (k_X5_part e) (by decide) (ci := 5) rfl rfl my_X5_part mv_X5_part tw_4_157 ⟨Nat.le_of_ble_eq_true rfl, Nat.le_of_ble_eq_true rfl⟩ ⟨Nat.zero_le _, Nat.zero_le _⟩ rfl hl.1 rfl rfl (Nat.le_of_ble_eq_true rfl) dX10_standOf_26 (fun H locs hw => ?_)
  refine lv_istore_n (lv' := [(3, .int x1), (2, .int u0), (0, .ref v0), (1, .int v1)]) hx hb dX10_standOf_29 rfl hl (by decide) rfl (fun ls hl => ?_)
  refine lv_iload_n hx hb dX10_standOf_30 rfl (lv_at hl 0 rfl) ?_
  refine lv_bipush (v := 9) hx hb dX10_standOf_31 (by decide) ?_
  refine lv_icmp_ne (tgt := 40) hx hb dX10_standOf_33 (by decide) (fun c2 => ?_) (fun c2 => ?_)
  · have hf := (if_neg c2).symm.trans hf
    refine lv_iload_n hx hb dX10_standOf_40 rfl (lv_at hl 0 rfl) ?_
    refine lv_bipush (v := 6) hx hb dX10_standOf_41 (by decide) ?_
    refine lv_imul hx hb dX10_standOf_43 ?_
    refine lv_aload_n hx hb dX10_standOf_44 rfl (lv_at hl 2 rfl) ?_
    refine lv_iload_n hx hb dX10_standOf_45 rfl (lv_at hl 3 rfl) ?_
    refine lv_iconst (v := 4) hx hb dX10_standOf_46 (by decide) ?_
    obtain ⟨x3, e, hf⟩ := ob hf
    refine q_callVN (As := [.int v1, .int 4]) (rest := [.int (x1 * 6)]) (st1 := [.int x3, .int (x1 * 6)]) (c_X5_part G e) B hw hz hc0 (k_X5_part e) (by decide) (ci := 5) rfl rfl my_X5_part mv_X5_part tw_4_157 ⟨Nat.le_of_ble_eq_true rfl, Nat.le_of_ble_eq_true rfl⟩ ⟨Nat.zero_le _, Nat.zero_le _⟩ rfl hl.1 rfl rfl (Nat.le_of_ble_eq_true rfl) dX10_standOf_47 (fun H locs hw => ?_)
    refine lv_iadd hx hb dX10_standOf_50 ?_
    exact w_X10_standOf_51 G B hz hc0 hr hlk  v0 v1 u0 ((x1 * 6) + x3) _ _ _ hw (lv_sub hl [2, 3, 1] rfl) hf
  · have hf := (if_pos c2).symm.trans hf
    refine lv_iconst (v := 0) hx hb dX10_standOf_36 (by decide) ?_
    refine lv_goto (tgt := 51) hx hb dX10_standOf_37 (by decide) ?_
    exact w_X10_standOf_51 G B hz hc0 hr hlk  v0 v1 u0 0 _ _ _ hw (lv_sub hl [2, 3, 1] rfl) hf
set_option maxHeartbeats 4000000 in
theorem c_X10_standOf {l : Launch} {s0 : State} {E : Ev} (G : Gl s0 E) {z : Sh} {h : Hp} {v0 : Nat} {v1 : Int32} {r : Int32} (hf : f_X10_standOf z h v0 v1 = some r) : Ct l s0 E yX10_standOf cX10_standOf 5 (some .int) 1 23 [.ref v0, .int v1] z h h (some (.int r)) := by
  refine Ct.of G (by decide) (Nat.le_of_ble_eq_true rfl) ?_
  intro p e s m below meth c ls B hw hz hc0 hr hlk hl
  have B : Bd p s0 s E m c cX10_standOf 5 RX10 := B
  have hx := B.1
  have hb := B.2.1
  have hl : lv_has ls 5 [(0, .ref v0), (1, .int v1)] := hl
  unfold f_X10_standOf at hf
  refine lv_aload_n hx hb dX10_standOf_0 rfl (lv_at hl 0 rfl) ?_
  refine lv_iload_n hx hb dX10_standOf_1 rfl (lv_at hl 1 rfl) ?_
  refine lv_iconst (v := 1) hx hb dX10_standOf_2 (by decide) ?_
  obtain ⟨x1, e, hf⟩ := ob hf
  refine q_callVN (As := [.int v1, .int 1]) (rest := []) (st1 := [.int x1]) (c_X5_part G e) B hw hz hc0 (k_X5_part e) (by decide) (ci := 5) rfl rfl my_X5_part mv_X5_part tw_4_157 ⟨Nat.le_of_ble_eq_true rfl, Nat.le_of_ble_eq_true rfl⟩ ⟨Nat.zero_le _, Nat.zero_le _⟩ rfl hl.1 rfl rfl (Nat.le_of_ble_eq_true rfl) dX10_standOf_3 (fun H locs hw => ?_)
  refine lv_iconst (v := 2) hx hb dX10_standOf_6 (by decide) ?_
  refine lv_icmp_ne (tgt := 21) hx hb dX10_standOf_7 (by decide) (fun c2 => ?_) (fun c2 => ?_)
  · have hf := (if_neg c2).symm.trans hf
    refine lv_iconst (v := 0) hx hb dX10_standOf_21 (by decide) ?_
    exact w_X10_standOf_22 G B hz hc0 hr hlk  v0 v1 0 _ _ _ hw (lv_sub hl [0, 1] rfl) hf
  · have hf := (if_pos c2).symm.trans hf
    refine lv_iconst (v := 1) hx hb dX10_standOf_10 (by decide) ?_
    refine lv_aload_n hx hb dX10_standOf_11 rfl (lv_at hl 0 rfl) ?_
    refine lv_iload_n hx hb dX10_standOf_12 rfl (lv_at hl 1 rfl) ?_
    refine lv_iconst (v := 5) hx hb dX10_standOf_13 (by decide) ?_
    obtain ⟨x3, e, hf⟩ := ob hf
    refine q_callVN (As := [.int v1, .int 5]) (rest := [.int 1]) (st1 := [.int x3, .int 1]) (c_X5_part G e) B hw hz hc0 (k_X5_part e) (by decide) (ci := 5) rfl rfl my_X5_part mv_X5_part tw_4_157 ⟨Nat.le_of_ble_eq_true rfl, Nat.le_of_ble_eq_true rfl⟩ ⟨Nat.zero_le _, Nat.zero_le _⟩ rfl hl.1 rfl rfl (Nat.le_of_ble_eq_true rfl) dX10_standOf_14 (fun H locs hw => ?_)
    refine lv_iadd hx hb dX10_standOf_17 ?_
    refine lv_goto (tgt := 22) hx hb dX10_standOf_18 (by decide) ?_
    exact w_X10_standOf_22 G B hz hc0 hr hlk  v0 v1 (1 + x3) _ _ _ hw (lv_sub hl [0, 1] rfl) hf
/-! SecondLife$Ways.lifeOf(I)I -/
def f_X10_lifeOf (z : Sh) (h : Hp) (v0 : Int32) : Option (Int32) :=
  (dvI v0 175).bind fun x1 =>
  some x1
set_option maxHeartbeats 4000000 in
theorem c_X10_lifeOf {l : Launch} {s0 : State} {E : Ev} (G : Gl s0 E) {z : Sh} {h : Hp} {v0 : Int32} {r : Int32} (hf : f_X10_lifeOf z h v0 = some r) : Ct l s0 E yX10_lifeOf cX10_lifeOf 1 (some .int) 0 0 [.int v0] z h h (some (.int r)) := by
  refine Ct.of G (by decide) (Nat.le_of_ble_eq_true rfl) ?_
  intro p e s m below meth c ls B hw hz hc0 hr hlk hl
  have B : Bd p s0 s E m c cX10_lifeOf 1 RX10 := B
  have hx := B.1
  have hb := B.2.1
  have hl : lv_has ls 1 [(0, .int v0)] := hl
  unfold f_X10_lifeOf at hf
  refine lv_iload_n hx hb dX10_lifeOf_0 rfl (lv_at hl 0 rfl) ?_
  refine lv_sipush (v := 175) hx hb dX10_lifeOf_1 (by decide) ?_
  obtain ⟨x1, e, hf⟩ := ob hf
  refine q_idiv e hx hb dX10_lifeOf_4 ?_
  obtain rfl := so hf
  exact q_iret B hw hz hc0 hr hlk dX10_lifeOf_5
/-! SecondLife$Ways.yearOf(I)I -/
def f_X10_yearOf (z : Sh) (h : Hp) (v0 : Int32) : Option (Int32) :=
  (dvI v0 25).bind fun x1 =>
  (rmI x1 7).bind fun x2 =>
  some x2
set_option maxHeartbeats 4000000 in
theorem c_X10_yearOf {l : Launch} {s0 : State} {E : Ev} (G : Gl s0 E) {z : Sh} {h : Hp} {v0 : Int32} {r : Int32} (hf : f_X10_yearOf z h v0 = some r) : Ct l s0 E yX10_yearOf cX10_yearOf 1 (some .int) 0 0 [.int v0] z h h (some (.int r)) := by
  refine Ct.of G (by decide) (Nat.le_of_ble_eq_true rfl) ?_
  intro p e s m below meth c ls B hw hz hc0 hr hlk hl
  have B : Bd p s0 s E m c cX10_yearOf 1 RX10 := B
  have hx := B.1
  have hb := B.2.1
  have hl : lv_has ls 1 [(0, .int v0)] := hl
  unfold f_X10_yearOf at hf
  refine lv_iload_n hx hb dX10_yearOf_0 rfl (lv_at hl 0 rfl) ?_
  refine lv_bipush (v := 25) hx hb dX10_yearOf_1 (by decide) ?_
  obtain ⟨x1, e, hf⟩ := ob hf
  refine q_idiv e hx hb dX10_yearOf_3 ?_
  refine lv_bipush (v := 7) hx hb dX10_yearOf_4 (by decide) ?_
  obtain ⟨x2, e, hf⟩ := ob hf
  refine q_irem e hx hb dX10_yearOf_6 ?_
  obtain rfl := so hf
  exact q_iret B hw hz hc0 hr hlk dX10_yearOf_7
/-! SecondLife$Ways.lastOf(I)I -/
def f_X10_lastOf (z : Sh) (h : Hp) (v0 : Int32) : Option (Int32) :=
  (rmI v0 25).bind fun x1 =>
  if x1 = 0 then
    some (9 : Int32)
  else
    (dvI (x1 - 1) 6).bind fun x3 =>
    some x3
set_option maxHeartbeats 4000000 in
theorem c_X10_lastOf {l : Launch} {s0 : State} {E : Ev} (G : Gl s0 E) {z : Sh} {h : Hp} {v0 : Int32} {r : Int32} (hf : f_X10_lastOf z h v0 = some r) : Ct l s0 E yX10_lastOf cX10_lastOf 2 (some .int) 0 0 [.int v0] z h h (some (.int r)) := by
  refine Ct.of G (by decide) (Nat.le_of_ble_eq_true rfl) ?_
  intro p e s m below meth c ls B hw hz hc0 hr hlk hl
  have B : Bd p s0 s E m c cX10_lastOf 2 RX10 := B
  have hx := B.1
  have hb := B.2.1
  have hl : lv_has ls 2 [(0, .int v0)] := hl
  unfold f_X10_lastOf at hf
  refine lv_iload_n hx hb dX10_lastOf_0 rfl (lv_at hl 0 rfl) ?_
  refine lv_bipush (v := 25) hx hb dX10_lastOf_1 (by decide) ?_
  obtain ⟨x1, e, hf⟩ := ob hf
  refine q_irem e hx hb dX10_lastOf_3 ?_
  refine lv_istore_n (lv' := [(1, .int x1), (0, .int v0)]) hx hb dX10_lastOf_4 rfl hl (by decide) rfl (fun ls hl => ?_)
  refine lv_iload_n hx hb dX10_lastOf_5 rfl (lv_at hl 0 rfl) ?_
  refine lv_if_ne (tgt := 14) hx hb dX10_lastOf_6 (by decide) (fun c2 => ?_) (fun c2 => ?_)
  · have hf := (if_neg c2).symm.trans hf
    refine lv_iload_n hx hb dX10_lastOf_14 rfl (lv_at hl 0 rfl) ?_
    refine lv_iconst (v := 1) hx hb dX10_lastOf_15 (by decide) ?_
    refine lv_isub hx hb dX10_lastOf_16 ?_
    refine lv_bipush (v := 6) hx hb dX10_lastOf_17 (by decide) ?_
    obtain ⟨x3, e, hf⟩ := ob hf
    refine q_idiv e hx hb dX10_lastOf_19 ?_
    obtain rfl := so hf
    exact q_iret B hw hz hc0 hr hlk dX10_lastOf_20
  · have hf := (if_pos c2).symm.trans hf
    refine lv_bipush (v := 9) hx hb dX10_lastOf_9 (by decide) ?_
    refine lv_goto (tgt := 20) hx hb dX10_lastOf_11 (by decide) ?_
    obtain rfl := so hf
    exact q_iret B hw hz hc0 hr hlk dX10_lastOf_20
/-! SecondLife$Ways.streakOf(I)I -/
def f_X10_streakOf (z : Sh) (h : Hp) (v0 : Int32) : Option (Int32) :=
  (rmI v0 25).bind fun x1 =>
  if x1 = 0 then
    some (0 : Int32)
  else
    (rmI (x1 - 1) 6).bind fun x3 =>
    some (x3 + 1)
set_option maxHeartbeats 4000000 in
theorem c_X10_streakOf {l : Launch} {s0 : State} {E : Ev} (G : Gl s0 E) {z : Sh} {h : Hp} {v0 : Int32} {r : Int32} (hf : f_X10_streakOf z h v0 = some r) : Ct l s0 E yX10_streakOf cX10_streakOf 2 (some .int) 0 0 [.int v0] z h h (some (.int r)) := by
  refine Ct.of G (by decide) (Nat.le_of_ble_eq_true rfl) ?_
  intro p e s m below meth c ls B hw hz hc0 hr hlk hl
  have B : Bd p s0 s E m c cX10_streakOf 2 RX10 := B
  have hx := B.1
  have hb := B.2.1
  have hl : lv_has ls 2 [(0, .int v0)] := hl
  unfold f_X10_streakOf at hf
  refine lv_iload_n hx hb dX10_streakOf_0 rfl (lv_at hl 0 rfl) ?_
  refine lv_bipush (v := 25) hx hb dX10_streakOf_1 (by decide) ?_
  obtain ⟨x1, e, hf⟩ := ob hf
  refine q_irem e hx hb dX10_streakOf_3 ?_
  refine lv_istore_n (lv' := [(1, .int x1), (0, .int v0)]) hx hb dX10_streakOf_4 rfl hl (by decide) rfl (fun ls hl => ?_)
  refine lv_iload_n hx hb dX10_streakOf_5 rfl (lv_at hl 0 rfl) ?_
  refine lv_if_ne (tgt := 13) hx hb dX10_streakOf_6 (by decide) (fun c2 => ?_) (fun c2 => ?_)
  · have hf := (if_neg c2).symm.trans hf
    refine lv_iload_n hx hb dX10_streakOf_13 rfl (lv_at hl 0 rfl) ?_
    refine lv_iconst (v := 1) hx hb dX10_streakOf_14 (by decide) ?_
    refine lv_isub hx hb dX10_streakOf_15 ?_
    refine lv_bipush (v := 6) hx hb dX10_streakOf_16 (by decide) ?_
    obtain ⟨x3, e, hf⟩ := ob hf
    refine q_irem e hx hb dX10_streakOf_18 ?_
    refine lv_iconst (v := 1) hx hb dX10_streakOf_19 (by decide) ?_
    refine lv_iadd hx hb dX10_streakOf_20 ?_
    obtain rfl := so hf
    exact q_iret B hw hz hc0 hr hlk dX10_streakOf_21
  · have hf := (if_pos c2).symm.trans hf
    refine lv_iconst (v := 0) hx hb dX10_streakOf_9 (by decide) ?_
    refine lv_goto (tgt := 21) hx hb dX10_streakOf_10 (by decide) ?_
    obtain rfl := so hf
    exact q_iret B hw hz hc0 hr hlk dX10_streakOf_21
/-! SecondLife$Ways.openTrades(I)I -/
def f_X10_openTrades (z : Sh) (h : Hp) (v0 : Nat) (v1 : Int32) : Option (Int32) :=
  if z.K v0 = 10 then
    (f_X10_yearOf z h v1).bind fun x1 =>
    (gR z h 10 v0 3).bind fun a2 =>
    (gI z h 8 a2 0).bind fun x3 =>
    if x3 ≤ x1 then
      some (0 : Int32)
    else
      (gR z h 10 v0 3).bind fun a5 =>
      (gI z h 8 a5 1).bind fun x6 =>
      some x6
  else none
theorem k_X10_openTrades {z : Sh} {h : Hp} {v0 : Nat} {v1 : Int32} {w : Int32} (hf : f_X10_openTrades z h v0 v1 = some w) : z.K v0 = 10 := by
  unfold f_X10_openTrades at hf
  exact (if_some hf).1
set_option maxHeartbeats 4000000 in
theorem c_X10_openTrades {l : Launch} {s0 : State} {E : Ev} (G : Gl s0 E) {z : Sh} {h : Hp} {v0 : Nat} {v1 : Int32} {r : Int32} (hf : f_X10_openTrades z h v0 v1 = some r) : Ct l s0 E yX10_openTrades cX10_openTrades 2 (some .int) 1 20 [.ref v0, .int v1] z h h (some (.int r)) := by
  refine Ct.of G (by decide) (Nat.le_of_ble_eq_true rfl) ?_
  intro p e s m below meth c ls B hw hz hc0 hr hlk hl
  have B : Bd p s0 s E m c cX10_openTrades 2 RX10 := B
  have hx := B.1
  have hb := B.2.1
  have hl : lv_has ls 2 [(0, .ref v0), (1, .int v1)] := hl
  unfold f_X10_openTrades at hf
  obtain ⟨_, hf⟩ := if_some hf
  refine lv_iload_n hx hb dX10_openTrades_0 rfl (lv_at hl 1 rfl) ?_
  obtain ⟨x1, e, hf⟩ := ob hf
  refine q_callS (As := [.int v1]) (rest := []) (st1 := [.int x1]) (c_X10_yearOf G e) B hw hz hc0 my_X10_yearOf mv_X10_yearOf tw_4_182 ⟨Nat.le_of_ble_eq_true rfl, Nat.le_of_ble_eq_true rfl⟩ ⟨Nat.zero_le _, Nat.zero_le _⟩ rfl hl.1 rfl rfl (Nat.le_of_ble_eq_true rfl) dX10_openTrades_1 (fun H locs hw => ?_)
  refine lv_aload_n hx hb dX10_openTrades_4 rfl (lv_at hl 0 rfl) ?_
  obtain ⟨a2, e, hf⟩ := ob hf
  refine q_getR e B hw fd_10_3.1 fd_10_3.2.1 fd_10_3.2.2.1 fd_10_3.2.2.2.1 fd_10_3.2.2.2.2 rfl tw_1_230 dX10_openTrades_5 ?_
  obtain ⟨x3, e, hf⟩ := ob hf
  refine q_getIN e B hw fd_8_0.1 fd_8_0.2.1 fd_8_0.2.2.1 fd_8_0.2.2.2.1 fd_8_0.2.2.2.2 rfl tw_1_53 dX10_openTrades_8 ?_
  refine lv_icmp_ge (tgt := 24) hx hb dX10_openTrades_11 (by decide) (fun c4 => ?_) (fun c4 => ?_)
  · have hf := (if_pos c4).symm.trans hf
    refine lv_iconst (v := 0) hx hb dX10_openTrades_24 (by decide) ?_
    obtain rfl := so hf
    exact q_iret B hw hz hc0 hr hlk dX10_openTrades_25
  · have hf := (if_neg c4).symm.trans hf
    refine lv_aload_n hx hb dX10_openTrades_14 rfl (lv_at hl 0 rfl) ?_
    obtain ⟨a5, e, hf⟩ := ob hf
    refine q_getR e B hw fd_10_3.1 fd_10_3.2.1 fd_10_3.2.2.1 fd_10_3.2.2.2.1 fd_10_3.2.2.2.2 rfl tw_1_230 dX10_openTrades_15 ?_
    obtain ⟨x6, e, hf⟩ := ob hf
    refine q_getIN e B hw fd_8_1.1 fd_8_1.2.1 fd_8_1.2.2.1 fd_8_1.2.2.2.1 fd_8_1.2.2.2.2 rfl tw_1_57 dX10_openTrades_18 ?_
    refine lv_goto (tgt := 25) hx hb dX10_openTrades_21 (by decide) ?_
    obtain rfl := so hf
    exact q_iret B hw hz hc0 hr hlk dX10_openTrades_25
/-! SecondLife$Ways.grownAt(I)I -/
def f_X10_grownAt (z : Sh) (h : Hp) (v0 : Nat) (v1 : Int32) : Option (Int32) :=
  if z.K v0 = 10 then
    if v1 < 0 then
      some (0 : Int32)
    else
      (gR z h 10 v0 2).bind fun a2 =>
      (aL z a2).bind fun x3 =>
      if x3 ≤ v1 then
        some (0 : Int32)
      else
        (gR z h 10 v0 2).bind fun a5 =>
        (ldI z h a5 v1).bind fun x6 =>
        some x6
  else none
theorem k_X10_grownAt {z : Sh} {h : Hp} {v0 : Nat} {v1 : Int32} {w : Int32} (hf : f_X10_grownAt z h v0 v1 = some w) : z.K v0 = 10 := by
  unfold f_X10_grownAt at hf
  exact (if_some hf).1
set_option maxHeartbeats 4000000 in
theorem c_X10_grownAt {l : Launch} {s0 : State} {E : Ev} (G : Gl s0 E) {z : Sh} {h : Hp} {v0 : Nat} {v1 : Int32} {r : Int32} (hf : f_X10_grownAt z h v0 v1 = some r) : Ct l s0 E yX10_grownAt cX10_grownAt 2 (some .int) 0 0 [.ref v0, .int v1] z h h (some (.int r)) := by
  refine Ct.of G (by decide) (Nat.le_of_ble_eq_true rfl) ?_
  intro p e s m below meth c ls B hw hz hc0 hr hlk hl
  have B : Bd p s0 s E m c cX10_grownAt 2 RX10 := B
  have hx := B.1
  have hb := B.2.1
  have hl : lv_has ls 2 [(0, .ref v0), (1, .int v1)] := hl
  unfold f_X10_grownAt at hf
  obtain ⟨_, hf⟩ := if_some hf
  refine lv_iload_n hx hb dX10_grownAt_0 rfl (lv_at hl 1 rfl) ?_
  refine lv_if_lt (tgt := 22) hx hb dX10_grownAt_1 (by decide) (fun c1 => ?_) (fun c1 => ?_)
  · have hf := (if_pos c1).symm.trans hf
    refine lv_iconst (v := 0) hx hb dX10_grownAt_22 (by decide) ?_
    obtain rfl := so hf
    exact q_iret B hw hz hc0 hr hlk dX10_grownAt_23
  · have hf := (if_neg c1).symm.trans hf
    refine lv_iload_n hx hb dX10_grownAt_4 rfl (lv_at hl 1 rfl) ?_
    refine lv_aload_n hx hb dX10_grownAt_5 rfl (lv_at hl 0 rfl) ?_
    obtain ⟨a2, e, hf⟩ := ob hf
    refine q_getR e B hw fd_10_2.1 fd_10_2.2.1 fd_10_2.2.2.1 fd_10_2.2.2.2.1 fd_10_2.2.2.2.2 rfl tw_1_229 dX10_grownAt_6 ?_
    obtain ⟨x3, e, hf⟩ := ob hf
    refine q_len e B hw dX10_grownAt_9 ?_
    refine lv_icmp_ge (tgt := 22) hx hb dX10_grownAt_10 (by decide) (fun c4 => ?_) (fun c4 => ?_)
    · have hf := (if_pos c4).symm.trans hf
      refine lv_iconst (v := 0) hx hb dX10_grownAt_22 (by decide) ?_
      obtain rfl := so hf
      exact q_iret B hw hz hc0 hr hlk dX10_grownAt_23
    · have hf := (if_neg c4).symm.trans hf
      refine lv_aload_n hx hb dX10_grownAt_13 rfl (lv_at hl 0 rfl) ?_
      obtain ⟨a5, e, hf⟩ := ob hf
      refine q_getR e B hw fd_10_2.1 fd_10_2.2.1 fd_10_2.2.2.1 fd_10_2.2.2.2.1 fd_10_2.2.2.2.2 rfl tw_1_229 dX10_grownAt_14 ?_
      refine lv_iload_n hx hb dX10_grownAt_17 rfl (lv_at hl 1 rfl) ?_
      obtain ⟨x6, e, hf⟩ := ob hf
      refine q_ldI e B hw dX10_grownAt_18 ?_
      refine lv_goto (tgt := 23) hx hb dX10_grownAt_19 (by decide) ?_
      obtain rfl := so hf
      exact q_iret B hw hz hc0 hr hlk dX10_grownAt_23
