/-! SecondLife$Reader.isLetter(I)Z -/
def f_X6_isLetter (z : Sh) (h : Hp) (v0 : Int32) : Option (Int32) :=
  if v0 < 97 then
    some 0
  else
    if 122 < v0 then
      some 0
    else
      some 1
set_option maxHeartbeats 4000000 in
theorem c_X6_isLetter {l : Launch} {s0 : State} {E : Ev} (G : Gl s0 E) {z : Sh} {h : Hp} {v0 : Int32} {r : Int32} (hf : f_X6_isLetter z h v0 = some r) : Ct l s0 E yX6_isLetter cX6_isLetter 1 (some .boolean) 0 0 [.int v0] z h h (some (.int r)) := by
  refine Ct.of G (by decide) (Nat.le_of_ble_eq_true rfl) ?_
  intro p e s m below meth c ls B hw hz hc0 hr hlk hl
  have B : Bd p s0 s E m c cX6_isLetter 1 RX6 := B
  have hx := B.1
  have hb := B.2.1
  have hl : lv_has ls 1 [(0, .int v0)] := hl
  unfold f_X6_isLetter at hf
  refine lv_iload_n hx hb dX6_isLetter_0 rfl (lv_at hl 0 rfl) ?_
  refine lv_bipush (v := 97) hx hb dX6_isLetter_1 (by decide) ?_
  refine lv_icmp_lt (tgt := 16) hx hb dX6_isLetter_3 (by decide) (fun c1 => ?_) (fun c1 => ?_)
  · have hf := (if_pos c1).symm.trans hf
    refine lv_iconst (v := 0) hx hb dX6_isLetter_16 (by decide) ?_
    obtain rfl := so hf
    exact q_zret (Or.inl rfl) B hw hz hc0 hr hlk dX6_isLetter_17
  · have hf := (if_neg c1).symm.trans hf
    refine lv_iload_n hx hb dX6_isLetter_6 rfl (lv_at hl 0 rfl) ?_
    refine lv_bipush (v := 122) hx hb dX6_isLetter_7 (by decide) ?_
    refine lv_icmp_gt (tgt := 16) hx hb dX6_isLetter_9 (by decide) (fun c2 => ?_) (fun c2 => ?_)
    · have hf := (if_pos c2).symm.trans hf
      refine lv_iconst (v := 0) hx hb dX6_isLetter_16 (by decide) ?_
      obtain rfl := so hf
      exact q_zret (Or.inl rfl) B hw hz hc0 hr hlk dX6_isLetter_17
    · have hf := (if_neg c2).symm.trans hf
      refine lv_iconst (v := 1) hx hb dX6_isLetter_12 (by decide) ?_
      refine lv_goto (tgt := 17) hx hb dX6_isLetter_13 (by decide) ?_
      obtain rfl := so hf
      exact q_zret (Or.inr rfl) B hw hz hc0 hr hlk dX6_isLetter_17
/-! SecondLife$Reader.isDigit(I)Z -/
def f_X6_isDigit (z : Sh) (h : Hp) (v0 : Int32) : Option (Int32) :=
  if v0 < 48 then
    some 0
  else
    if 57 < v0 then
      some 0
    else
      some 1
set_option maxHeartbeats 4000000 in
theorem c_X6_isDigit {l : Launch} {s0 : State} {E : Ev} (G : Gl s0 E) {z : Sh} {h : Hp} {v0 : Int32} {r : Int32} (hf : f_X6_isDigit z h v0 = some r) : Ct l s0 E yX6_isDigit cX6_isDigit 1 (some .boolean) 0 0 [.int v0] z h h (some (.int r)) := by
  refine Ct.of G (by decide) (Nat.le_of_ble_eq_true rfl) ?_
  intro p e s m below meth c ls B hw hz hc0 hr hlk hl
  have B : Bd p s0 s E m c cX6_isDigit 1 RX6 := B
  have hx := B.1
  have hb := B.2.1
  have hl : lv_has ls 1 [(0, .int v0)] := hl
  unfold f_X6_isDigit at hf
  refine lv_iload_n hx hb dX6_isDigit_0 rfl (lv_at hl 0 rfl) ?_
  refine lv_bipush (v := 48) hx hb dX6_isDigit_1 (by decide) ?_
  refine lv_icmp_lt (tgt := 16) hx hb dX6_isDigit_3 (by decide) (fun c1 => ?_) (fun c1 => ?_)
  · have hf := (if_pos c1).symm.trans hf
    refine lv_iconst (v := 0) hx hb dX6_isDigit_16 (by decide) ?_
    obtain rfl := so hf
    exact q_zret (Or.inl rfl) B hw hz hc0 hr hlk dX6_isDigit_17
  · have hf := (if_neg c1).symm.trans hf
    refine lv_iload_n hx hb dX6_isDigit_6 rfl (lv_at hl 0 rfl) ?_
    refine lv_bipush (v := 57) hx hb dX6_isDigit_7 (by decide) ?_
    refine lv_icmp_gt (tgt := 16) hx hb dX6_isDigit_9 (by decide) (fun c2 => ?_) (fun c2 => ?_)
    · have hf := (if_pos c2).symm.trans hf
      refine lv_iconst (v := 0) hx hb dX6_isDigit_16 (by decide) ?_
      obtain rfl := so hf
      exact q_zret (Or.inl rfl) B hw hz hc0 hr hlk dX6_isDigit_17
    · have hf := (if_neg c2).symm.trans hf
      refine lv_iconst (v := 1) hx hb dX6_isDigit_12 (by decide) ?_
      refine lv_goto (tgt := 17) hx hb dX6_isDigit_13 (by decide) ?_
      obtain rfl := so hf
      exact q_zret (Or.inr rfl) B hw hz hc0 hr hlk dX6_isDigit_17
/-! SecondLife$Reckoner.<init>()V -/
def f_X7_init (z : Sh) (h : Hp) (v0 : Nat) : Option (Hp × Sh) :=
  if z.K v0 = 7 then
    gd2 z <|
    (nwA z h 14 7).bind fun (a1, h2, z3) =>
    gd2 z3 <|
    (pR z3 h2 7 v0 0 (some a1)).bind fun h4 =>
    (nwA z3 h4 14 64).bind fun (a5, h6, z7) =>
    gd2 z7 <|
    (pR z7 h6 7 v0 1 (some a5)).bind fun h8 =>
    some (h8, z7)
  else none
theorem k_X7_init {z : Sh} {h : Hp} {v0 : Nat} {w : Hp × Sh} (hf : f_X7_init z h v0 = some w) : z.K v0 = 7 := by
  unfold f_X7_init at hf
  exact (if_some hf).1
theorem mo_X7_init {z : Sh} {h : Hp} {v0 : Nat} {h' : Hp} {zE : Sh} (hf : f_X7_init z h v0 = some (h', zE)) : z.sz ≤ zE.sz ∧ z.sl ≤ zE.sl := by
  unfold f_X7_init at hf
  exact (gd2_some (if_some hf).2).1
set_option maxHeartbeats 4000000 in
theorem c_X7_init {l : Launch} {s0 : State} {E : Ev} (G : Gl s0 E) {z : Sh} {h : Hp} {v0 : Nat} {h' : Hp} {zE : Sh} (hf : f_X7_init z h v0 = some (h', zE)) : Ca l s0 E yX7_init cX7_init 1 none 1 24 [.ref v0] z zE h h' (none) := by
  refine Ca.of G (by decide +kernel) (Nat.le_of_ble_eq_true rfl) (mo_X7_init hf) ?_
  intro p e s m below meth c ls B hw hM hr hlk hnm0 hl
  have B : Bd p s0 s E m c cX7_init 1 RX7 := B
  have hx := B.1
  have hb := B.2.1
  have hl : lv_has ls 1 [(0, .ref v0)] := hl
  have hin : meth.name = "<init>" := hnm0
  unfold f_X7_init at hf
  obtain ⟨_, hf⟩ := if_some hf
  obtain ⟨_, hf⟩ := gd2_some hf
  refine lv_aload_n hx hb dX7_init_0 rfl (lv_at hl 0 rfl) ?_
  refine q_obj B hl.1 tw_1_191 tw_1_29 tw_1_30 (Nat.le_of_ble_eq_true rfl) (Nat.le_of_ble_eq_true rfl) dX7_init_1 ?_
  refine lv_aload_n hx hb dX7_init_4 rfl (lv_at hl 0 rfl) ?_
  refine lv_bipush (v := 7) hx hb dX7_init_5 (by decide) ?_
  obtain ⟨⟨a1, h2, z3⟩, e, hf⟩ := ob hf
  obtain ⟨hg, hf⟩ := gd2_some hf
  refine q_newA (t0 := 1) e hg B hw hM (by decide) rfl rfl rfl (cfn_14 E _ _) arn_14 tw_1_102 dX7_init_7 (fun H locs hw hM => ?_)
  obtain ⟨h4, e, hf⟩ := ob hf
  refine q_putRF e B hw hin fd_7_0.1 fd_7_0.2.1 fd_7_0.2.2.1 fd_7_0.2.2.2.1 fd_7_0.2.2.2.2 rfl rfl rfl (tyX7_ok 0 (by decide)) (Or.inr ⟨_, rfl⟩) tyX7 tyX7_ok nmX7 tw_1_192 dX7_init_9 (fun H locs hw => ?_)
  refine lv_aload_n hx hb dX7_init_12 rfl (lv_at hl 0 rfl) ?_
  refine lv_bipush (v := 64) hx hb dX7_init_13 (by decide) ?_
  obtain ⟨⟨a5, h6, z7⟩, e, hf⟩ := ob hf
  obtain ⟨hg, hf⟩ := gd2_some hf
  refine q_newA (t0 := 1) e hg B hw hM (by decide) rfl rfl rfl (cfn_14 E _ _) arn_14 tw_1_102 dX7_init_15 (fun H locs hw hM => ?_)
  obtain ⟨h8, e, hf⟩ := ob hf
  refine q_putRF e B hw hin fd_7_1.1 fd_7_1.2.1 fd_7_1.2.2.1 fd_7_1.2.2.2.1 fd_7_1.2.2.2.2 rfl rfl rfl (tyX7_ok 1 (by decide)) (Or.inr ⟨_, rfl⟩) tyX7 tyX7_ok nmX7 tw_1_194 dX7_init_17 (fun H locs hw => ?_)
  obtain ⟨rfl, rfl⟩ := so2 hf
  exact q_vret B hw hM.hz hM.hc0 hr hlk dX7_init_20
/-! SecondLife$Reckoner.about(LSecondLife$People;I)V -/
def f_X7_about (z : Sh) (h : Hp) (v0 : Nat) (v1 : Nat) (v2 : Int32) : Option (Hp) :=
  if z.K v0 = 7 then
    (gR z h 7 v0 0).bind fun a1 =>
    (f_X5_part z h v1 v2 6).bind fun x2 =>
    (stI z h a1 0 x2).bind fun h3 =>
    (gR z h3 7 v0 0).bind fun a4 =>
    (f_X5_part z h3 v1 v2 0).bind fun x5 =>
    (stI z h3 a4 1 x5).bind fun h6 =>
    (gR z h6 7 v0 0).bind fun a7 =>
    (f_X5_part z h6 v1 v2 3).bind fun x8 =>
    (stI z h6 a7 3 x8).bind fun h9 =>
    (gR z h9 7 v0 0).bind fun a10 =>
    (f_X5_part z h9 v1 v2 4).bind fun x11 =>
    (stI z h9 a10 4 x11).bind fun h12 =>
    (gR z h12 7 v0 0).bind fun a13 =>
    (f_X5_part z h12 v1 v2 1).bind fun x14 =>
    (stI z h12 a13 5 x14).bind fun h15 =>
    (gR z h15 7 v0 0).bind fun a16 =>
    (f_X5_part z h15 v1 v2 5).bind fun x17 =>
    (stI z h15 a16 6 x17).bind fun h18 =>
    some h18
  else none
theorem k_X7_about {z : Sh} {h : Hp} {v0 : Nat} {v1 : Nat} {v2 : Int32} {w : Hp} (hf : f_X7_about z h v0 v1 v2 = some w) : z.K v0 = 7 := by
  unfold f_X7_about at hf
  exact (if_some hf).1
set_option maxHeartbeats 4000000 in
theorem c_X7_about {l : Launch} {s0 : State} {E : Ev} (G : Gl s0 E) {z : Sh} {h : Hp} {v0 : Nat} {v1 : Nat} {v2 : Int32} {h' : Hp} (hf : f_X7_about z h v0 v1 v2 = some h') : Ct l s0 E yX7_about cX7_about 3 none 1 23 [.ref v0, .ref v1, .int v2] z h h' (none) := by
  refine Ct.of G (by decide) (Nat.le_of_ble_eq_true rfl) ?_
  intro p e s m below meth c ls B hw hz hc0 hr hlk hl
  have B : Bd p s0 s E m c cX7_about 3 RX7 := B
  have hx := B.1
  have hb := B.2.1
  have hl : lv_has ls 3 [(0, .ref v0), (1, .ref v1), (2, .int v2)] := hl
  unfold f_X7_about at hf
  obtain ⟨_, hf⟩ := if_some hf
  refine lv_aload_n hx hb dX7_about_0 rfl (lv_at hl 0 rfl) ?_
  obtain ⟨a1, e, hf⟩ := ob hf
  refine q_getR e B hw fd_7_0.1 fd_7_0.2.1 fd_7_0.2.2.1 fd_7_0.2.2.2.1 fd_7_0.2.2.2.2 rfl tw_1_192 dX7_about_1 ?_
  refine lv_iconst (v := 0) hx hb dX7_about_4 (by decide) ?_
  refine lv_aload_n hx hb dX7_about_5 rfl (lv_at hl 1 rfl) ?_
  refine lv_iload_n hx hb dX7_about_6 rfl (lv_at hl 2 rfl) ?_
  refine lv_bipush (v := 6) hx hb dX7_about_7 (by decide) ?_
  obtain ⟨x2, e, hf⟩ := ob hf
  refine q_callVN (As := [.int v2, .int 6]) (rest := [.int 0, .ref a1]) (st1 := [.int x2, .int 0, .ref a1]) (c_X5_part G e) B hw hz hc0 (k_X5_part e) (by decide) (ci := 5) rfl rfl my_X5_part mv_X5_part tw_3_234 ⟨Nat.le_of_ble_eq_true rfl, Nat.le_of_ble_eq_true rfl⟩ ⟨Nat.zero_le _, Nat.zero_le _⟩ rfl hl.1 rfl rfl (Nat.le_of_ble_eq_true rfl) dX7_about_9 (fun H locs hw => ?_)
  obtain ⟨h3, e, hf⟩ := ob hf
  refine q_stI e B hw dX7_about_12 (fun H locs hw => ?_)
  refine lv_aload_n hx hb dX7_about_13 rfl (lv_at hl 0 rfl) ?_
  obtain ⟨a4, e, hf⟩ := ob hf
  refine q_getR e B hw fd_7_0.1 fd_7_0.2.1 fd_7_0.2.2.1 fd_7_0.2.2.2.1 fd_7_0.2.2.2.2 rfl tw_1_192 dX7_about_14 ?_
  refine lv_iconst (v := 1) hx hb dX7_about_17 (by decide) ?_
  refine lv_aload_n hx hb dX7_about_18 rfl (lv_at hl 1 rfl) ?_
  refine lv_iload_n hx hb dX7_about_19 rfl (lv_at hl 2 rfl) ?_
  refine lv_iconst (v := 0) hx hb dX7_about_20 (by decide) ?_
  obtain ⟨x5, e, hf⟩ := ob hf
  refine q_callVN (As := [.int v2, .int 0]) (rest := [.int 1, .ref a4]) (st1 := [.int x5, .int 1, .ref a4]) (c_X5_part G e) B hw hz hc0 (k_X5_part e) (by decide) (ci := 5) rfl rfl my_X5_part mv_X5_part tw_3_234 ⟨Nat.le_of_ble_eq_true rfl, Nat.le_of_ble_eq_true rfl⟩ ⟨Nat.zero_le _, Nat.zero_le _⟩ rfl hl.1 rfl rfl (Nat.le_of_ble_eq_true rfl) dX7_about_21 (fun H locs hw => ?_)
  obtain ⟨h6, e, hf⟩ := ob hf
  refine q_stI e B hw dX7_about_24 (fun H locs hw => ?_)
  refine lv_aload_n hx hb dX7_about_25 rfl (lv_at hl 0 rfl) ?_
  obtain ⟨a7, e, hf⟩ := ob hf
  refine q_getR e B hw fd_7_0.1 fd_7_0.2.1 fd_7_0.2.2.1 fd_7_0.2.2.2.1 fd_7_0.2.2.2.2 rfl tw_1_192 dX7_about_26 ?_
  refine lv_iconst (v := 3) hx hb dX7_about_29 (by decide) ?_
  refine lv_aload_n hx hb dX7_about_30 rfl (lv_at hl 1 rfl) ?_
  refine lv_iload_n hx hb dX7_about_31 rfl (lv_at hl 2 rfl) ?_
  refine lv_iconst (v := 3) hx hb dX7_about_32 (by decide) ?_
  obtain ⟨x8, e, hf⟩ := ob hf
  refine q_callVN (As := [.int v2, .int 3]) (rest := [.int 3, .ref a7]) (st1 := [.int x8, .int 3, .ref a7]) (c_X5_part G e) B hw hz hc0 (k_X5_part e) (by decide) (ci := 5) rfl rfl my_X5_part mv_X5_part tw_3_234 ⟨Nat.le_of_ble_eq_true rfl, Nat.le_of_ble_eq_true rfl⟩ ⟨Nat.zero_le _, Nat.zero_le _⟩ rfl hl.1 rfl rfl (Nat.le_of_ble_eq_true rfl) dX7_about_33 (fun H locs hw => ?_)
  obtain ⟨h9, e, hf⟩ := ob hf
  refine q_stI e B hw dX7_about_36 (fun H locs hw => ?_)
  refine lv_aload_n hx hb dX7_about_37 rfl (lv_at hl 0 rfl) ?_
  obtain ⟨a10, e, hf⟩ := ob hf
  refine q_getR e B hw fd_7_0.1 fd_7_0.2.1 fd_7_0.2.2.1 fd_7_0.2.2.2.1 fd_7_0.2.2.2.2 rfl tw_1_192 dX7_about_38 ?_
  refine lv_iconst (v := 4) hx hb dX7_about_41 (by decide) ?_
  refine lv_aload_n hx hb dX7_about_42 rfl (lv_at hl 1 rfl) ?_
  refine lv_iload_n hx hb dX7_about_43 rfl (lv_at hl 2 rfl) ?_
  refine lv_iconst (v := 4) hx hb dX7_about_44 (by decide) ?_
  obtain ⟨x11, e, hf⟩ := ob hf
  refine q_callVN (As := [.int v2, .int 4]) (rest := [.int 4, .ref a10]) (st1 := [.int x11, .int 4, .ref a10]) (c_X5_part G e) B hw hz hc0 (k_X5_part e) (by decide) (ci := 5) rfl rfl my_X5_part mv_X5_part tw_3_234 ⟨Nat.le_of_ble_eq_true rfl, Nat.le_of_ble_eq_true rfl⟩ ⟨Nat.zero_le _, Nat.zero_le _⟩ rfl hl.1 rfl rfl (Nat.le_of_ble_eq_true rfl) dX7_about_45 (fun H locs hw => ?_)
  obtain ⟨h12, e, hf⟩ := ob hf
  refine q_stI e B hw dX7_about_48 (fun H locs hw => ?_)
  refine lv_aload_n hx hb dX7_about_49 rfl (lv_at hl 0 rfl) ?_
  obtain ⟨a13, e, hf⟩ := ob hf
  refine q_getR e B hw fd_7_0.1 fd_7_0.2.1 fd_7_0.2.2.1 fd_7_0.2.2.2.1 fd_7_0.2.2.2.2 rfl tw_1_192 dX7_about_50 ?_
  refine lv_iconst (v := 5) hx hb dX7_about_53 (by decide) ?_
  refine lv_aload_n hx hb dX7_about_54 rfl (lv_at hl 1 rfl) ?_
  refine lv_iload_n hx hb dX7_about_55 rfl (lv_at hl 2 rfl) ?_
  refine lv_iconst (v := 1) hx hb dX7_about_56 (by decide) ?_
  obtain ⟨x14, e, hf⟩ := ob hf
  refine q_callVN (As := [.int v2, .int 1]) (rest := [.int 5, .ref a13]) (st1 := [.int x14, .int 5, .ref a13]) (c_X5_part G e) B hw hz hc0 (k_X5_part e) (by decide) (ci := 5) rfl rfl my_X5_part mv_X5_part tw_3_234 ⟨Nat.le_of_ble_eq_true rfl, Nat.le_of_ble_eq_true rfl⟩ ⟨Nat.zero_le _, Nat.zero_le _⟩ rfl hl.1 rfl rfl (Nat.le_of_ble_eq_true rfl) dX7_about_57 (fun H locs hw => ?_)
  obtain ⟨h15, e, hf⟩ := ob hf
  refine q_stI e B hw dX7_about_60 (fun H locs hw => ?_)
  refine lv_aload_n hx hb dX7_about_61 rfl (lv_at hl 0 rfl) ?_
  obtain ⟨a16, e, hf⟩ := ob hf
  refine q_getR e B hw fd_7_0.1 fd_7_0.2.1 fd_7_0.2.2.1 fd_7_0.2.2.2.1 fd_7_0.2.2.2.2 rfl tw_1_192 dX7_about_62 ?_
  refine lv_bipush (v := 6) hx hb dX7_about_65 (by decide) ?_
  refine lv_aload_n hx hb dX7_about_67 rfl (lv_at hl 1 rfl) ?_
  refine lv_iload_n hx hb dX7_about_68 rfl (lv_at hl 2 rfl) ?_
  refine lv_iconst (v := 5) hx hb dX7_about_69 (by decide) ?_
  obtain ⟨x17, e, hf⟩ := ob hf
  refine q_callVN (As := [.int v2, .int 5]) (rest := [.int 6, .ref a16]) (st1 := [.int x17, .int 6, .ref a16]) (c_X5_part G e) B hw hz hc0 (k_X5_part e) (by decide) (ci := 5) rfl rfl my_X5_part mv_X5_part tw_3_234 ⟨Nat.le_of_ble_eq_true rfl, Nat.le_of_ble_eq_true rfl⟩ ⟨Nat.zero_le _, Nat.zero_le _⟩ rfl hl.1 rfl rfl (Nat.le_of_ble_eq_true rfl) dX7_about_70 (fun H locs hw => ?_)
  obtain ⟨h18, e, hf⟩ := ob hf
  refine q_stI e B hw dX7_about_73 (fun H locs hw => ?_)
  obtain rfl := so hf
  exact q_vret B hw hz hc0 hr hlk dX7_about_74
/-! SecondLife$Reckoner.joined(III)I -/
def f_X7_joined (z : Sh) (h : Hp) (v0 : Int32) (v1 : Int32) (v2 : Int32) : Option (Int32) :=
  if v0 = (-7) then
    some (v1 &&& v2)
  else
    if v0 = (-6) then
      if v1 ≤ v2 then
        some (0 : Int32)
      else
        some (1 : Int32)
    else
      if v0 = (-5) then
        if v2 ≤ v1 then
          some (0 : Int32)
        else
          some (1 : Int32)
      else
        if v0 = (-4) then
          if v1 = v2 then
            some (1 : Int32)
          else
            some (0 : Int32)
        else
          if v0 = (-3) then
            (some ((Int32.toInt64 v1) * (Int32.toInt64 v2))).bind fun x4 =>
            if (lg_cmp x4 1000000) ≤ 0 then
              if 0 ≤ (lg_cmp x4 (-1000000)) then
                some (Int64.toInt32 x4)
              else
                some ((-1000000) : Int32)
            else
              some (1000000 : Int32)
          else
            if v0 = (-2) then
              (f_X11_within z h (v1 - v2) (-1000000) 1000000).bind fun x7 =>
              some x7
            else
              if v0 = (-1) then
                (f_X11_within z h (v1 + v2) (-1000000) 1000000).bind fun x8 =>
                some x8
              else
                some (v1 ||| v2)
set_option maxHeartbeats 4000000 in
theorem c_X7_joined {l : Launch} {s0 : State} {E : Ev} (G : Gl s0 E) {z : Sh} {h : Hp} {v0 : Int32} {v1 : Int32} {v2 : Int32} {r : Int32} (hf : f_X7_joined z h v0 v1 v2 = some r) : Ct l s0 E yX7_joined cX7_joined 5 (some .int) 1 22 [.int v0, .int v1, .int v2] z h h (some (.int r)) := by
  refine Ct.of G (by decide) (Nat.le_of_ble_eq_true rfl) ?_
  intro p e s m below meth c ls B hw hz hc0 hr hlk hl
  have B : Bd p s0 s E m c cX7_joined 5 RX7 := B
  have hx := B.1
  have hb := B.2.1
  have hl : lv_has ls 5 [(0, .int v0), (1, .int v1), (2, .int v2)] := hl
  unfold f_X7_joined at hf
  refine lv_iload_n hx hb dX7_joined_0 rfl (lv_at hl 0 rfl) ?_
  by_cases c1_m7 : v0 = (-7)
  · have hf := (if_pos c1_m7).symm.trans hf
    refine lv_tableIn (off := 133) (tgt := 134) hx hb dX7_joined_1 (by rw [c1_m7]; decide) (by rw [c1_m7]; decide) (by rw [c1_m7]; rfl) (by decide) ?_
    refine lv_iload_n hx hb dX7_joined_134 rfl (lv_at hl 1 rfl) ?_
    refine lv_iload_n hx hb dX7_joined_135 rfl (lv_at hl 2 rfl) ?_
    refine lv_iand hx hb dX7_joined_136 ?_
    obtain rfl := so hf
    exact q_iret B hw hz hc0 hr hlk dX7_joined_137
  have hf := (if_neg c1_m7).symm.trans hf
  by_cases c1_m6 : v0 = (-6)
  · have hf := (if_pos c1_m6).symm.trans hf
    refine lv_tableIn (off := 122) (tgt := 123) hx hb dX7_joined_1 (by rw [c1_m6]; decide) (by rw [c1_m6]; decide) (by rw [c1_m6]; rfl) (by decide) ?_
    refine lv_iload_n hx hb dX7_joined_123 rfl (lv_at hl 1 rfl) ?_
    refine lv_iload_n hx hb dX7_joined_124 rfl (lv_at hl 2 rfl) ?_
    refine lv_icmp_le (tgt := 132) hx hb dX7_joined_125 (by decide) (fun c1 => ?_) (fun c1 => ?_)
    · have hf := (if_pos c1).symm.trans hf
      refine lv_iconst (v := 0) hx hb dX7_joined_132 (by decide) ?_
      obtain rfl := so hf
      exact q_iret B hw hz hc0 hr hlk dX7_joined_133
    · have hf := (if_neg c1).symm.trans hf
      refine lv_iconst (v := 1) hx hb dX7_joined_128 (by decide) ?_
      refine lv_goto (tgt := 133) hx hb dX7_joined_129 (by decide) ?_
      obtain rfl := so hf
      exact q_iret B hw hz hc0 hr hlk dX7_joined_133
  have hf := (if_neg c1_m6).symm.trans hf
  by_cases c1_m5 : v0 = (-5)
  · have hf := (if_pos c1_m5).symm.trans hf
    refine lv_tableIn (off := 111) (tgt := 112) hx hb dX7_joined_1 (by rw [c1_m5]; decide) (by rw [c1_m5]; decide) (by rw [c1_m5]; rfl) (by decide) ?_
    refine lv_iload_n hx hb dX7_joined_112 rfl (lv_at hl 1 rfl) ?_
    refine lv_iload_n hx hb dX7_joined_113 rfl (lv_at hl 2 rfl) ?_
    refine lv_icmp_ge (tgt := 121) hx hb dX7_joined_114 (by decide) (fun c2 => ?_) (fun c2 => ?_)
    · have hf := (if_pos c2).symm.trans hf
      refine lv_iconst (v := 0) hx hb dX7_joined_121 (by decide) ?_
      obtain rfl := so hf
      exact q_iret B hw hz hc0 hr hlk dX7_joined_122
    · have hf := (if_neg c2).symm.trans hf
      refine lv_iconst (v := 1) hx hb dX7_joined_117 (by decide) ?_
      refine lv_goto (tgt := 122) hx hb dX7_joined_118 (by decide) ?_
      obtain rfl := so hf
      exact q_iret B hw hz hc0 hr hlk dX7_joined_122
  have hf := (if_neg c1_m5).symm.trans hf
  by_cases c1_m4 : v0 = (-4)
  · have hf := (if_pos c1_m4).symm.trans hf
    refine lv_tableIn (off := 100) (tgt := 101) hx hb dX7_joined_1 (by rw [c1_m4]; decide) (by rw [c1_m4]; decide) (by rw [c1_m4]; rfl) (by decide) ?_
    refine lv_iload_n hx hb dX7_joined_101 rfl (lv_at hl 1 rfl) ?_
    refine lv_iload_n hx hb dX7_joined_102 rfl (lv_at hl 2 rfl) ?_
    refine lv_icmp_ne (tgt := 110) hx hb dX7_joined_103 (by decide) (fun c3 => ?_) (fun c3 => ?_)
    · have hf := (if_neg c3).symm.trans hf
      refine lv_iconst (v := 0) hx hb dX7_joined_110 (by decide) ?_
      obtain rfl := so hf
      exact q_iret B hw hz hc0 hr hlk dX7_joined_111
    · have hf := (if_pos c3).symm.trans hf
      refine lv_iconst (v := 1) hx hb dX7_joined_106 (by decide) ?_
      refine lv_goto (tgt := 111) hx hb dX7_joined_107 (by decide) ?_
      obtain rfl := so hf
      exact q_iret B hw hz hc0 hr hlk dX7_joined_111
  have hf := (if_neg c1_m4).symm.trans hf
  by_cases c1_m3 : v0 = (-3)
  · have hf := (if_pos c1_m3).symm.trans hf
    refine lv_tableIn (off := 65) (tgt := 66) hx hb dX7_joined_1 (by rw [c1_m3]; decide) (by rw [c1_m3]; decide) (by rw [c1_m3]; rfl) (by decide) ?_
    refine lv_iload_n hx hb dX7_joined_66 rfl (lv_at hl 1 rfl) ?_
    refine lv_i2l (v := (Int32.toInt64 v1)) hx hb dX7_joined_67 rfl ?_
    refine lv_iload_n hx hb dX7_joined_68 rfl (lv_at hl 2 rfl) ?_
    refine lv_i2l (v := (Int32.toInt64 v2)) hx hb dX7_joined_69 rfl ?_
    refine lv_lmul hx hb dX7_joined_70 ?_
    obtain ⟨x4, e, hf⟩ := ob hf
    refine q_nmJ e ?_
    refine lv_lstore_n (lv' := [(3, .long x4), (0, .int v0), (1, .int v1), (2, .int v2)]) hx hb dX7_joined_71 rfl hl (by decide) rfl (fun ls hl => ?_)
    refine lv_lload_n hx hb dX7_joined_72 rfl (lv_at hl 0 rfl) ?_
    refine lv_ldc2 hx hb B.2.2.2.1 (B.w tw_4_15 rfl) dX7_joined_73 ?_
    refine W.lcmp hx hb dX7_joined_76 ?_
    refine lv_if_le (tgt := 85) hx hb dX7_joined_77 (by decide) (fun c5 => ?_) (fun c5 => ?_)
    · have hf := (if_pos c5).symm.trans hf
      refine lv_lload_n hx hb dX7_joined_85 rfl (lv_at hl 0 rfl) ?_
      refine lv_ldc2 hx hb B.2.2.2.1 (B.w tw_4_16 rfl) dX7_joined_86 ?_
      refine W.lcmp hx hb dX7_joined_89 ?_
      refine lv_if_ge (tgt := 98) hx hb dX7_joined_90 (by decide) (fun c6 => ?_) (fun c6 => ?_)
      · have hf := (if_pos c6).symm.trans hf
        refine lv_lload_n hx hb dX7_joined_98 rfl (lv_at hl 0 rfl) ?_
        refine lv_l2i (v := (Int64.toInt32 x4)) hx hb dX7_joined_99 rfl ?_
        obtain rfl := so hf
        exact q_iret B hw hz hc0 hr hlk dX7_joined_100
      · have hf := (if_neg c6).symm.trans hf
        refine lv_ldc hx hb B.2.2.2.1 (B.w tw_4_10 rfl) dX7_joined_93 ?_
        refine lv_goto (tgt := 100) hx hb dX7_joined_95 (by decide) ?_
        obtain rfl := so hf
        exact q_iret B hw hz hc0 hr hlk dX7_joined_100
    · have hf := (if_neg c5).symm.trans hf
      refine lv_ldc hx hb B.2.2.2.1 (B.w tw_4_11 rfl) dX7_joined_80 ?_
      refine lv_goto (tgt := 100) hx hb dX7_joined_82 (by decide) ?_
      obtain rfl := so hf
      exact q_iret B hw hz hc0 hr hlk dX7_joined_100
  have hf := (if_neg c1_m3).symm.trans hf
  by_cases c1_m2 : v0 = (-2)
  · have hf := (if_pos c1_m2).symm.trans hf
    refine lv_tableIn (off := 54) (tgt := 55) hx hb dX7_joined_1 (by rw [c1_m2]; decide) (by rw [c1_m2]; decide) (by rw [c1_m2]; rfl) (by decide) ?_
    refine lv_iload_n hx hb dX7_joined_55 rfl (lv_at hl 1 rfl) ?_
    refine lv_iload_n hx hb dX7_joined_56 rfl (lv_at hl 2 rfl) ?_
    refine lv_isub hx hb dX7_joined_57 ?_
    refine lv_ldc hx hb B.2.2.2.1 (B.w tw_4_10 rfl) dX7_joined_58 ?_
    refine lv_ldc hx hb B.2.2.2.1 (B.w tw_4_11 rfl) dX7_joined_60 ?_
    obtain ⟨x7, e, hf⟩ := ob hf
    refine q_callSN (As := [.int (v1 - v2), .int (-1000000), .int 1000000]) (rest := []) (st1 := [.int x7]) (c_X11_within G e) B hw hz hc0 my_X11_within mv_X11_within tw_4_12 ⟨Nat.le_of_ble_eq_true rfl, Nat.le_of_ble_eq_true rfl⟩ ⟨Nat.zero_le _, Nat.zero_le _⟩ rfl hl.1 rfl rfl (Nat.le_of_ble_eq_true rfl) dX7_joined_62 (fun H locs hw => ?_)
    obtain rfl := so hf
    exact q_iret B hw hz hc0 hr hlk dX7_joined_65
  have hf := (if_neg c1_m2).symm.trans hf
  by_cases c1_m1 : v0 = (-1)
  · have hf := (if_pos c1_m1).symm.trans hf
    refine lv_tableIn (off := 43) (tgt := 44) hx hb dX7_joined_1 (by rw [c1_m1]; decide) (by rw [c1_m1]; decide) (by rw [c1_m1]; rfl) (by decide) ?_
    refine lv_iload_n hx hb dX7_joined_44 rfl (lv_at hl 1 rfl) ?_
    refine lv_iload_n hx hb dX7_joined_45 rfl (lv_at hl 2 rfl) ?_
    refine lv_iadd hx hb dX7_joined_46 ?_
    refine lv_ldc hx hb B.2.2.2.1 (B.w tw_4_10 rfl) dX7_joined_47 ?_
    refine lv_ldc hx hb B.2.2.2.1 (B.w tw_4_11 rfl) dX7_joined_49 ?_
    obtain ⟨x8, e, hf⟩ := ob hf
    refine q_callSN (As := [.int (v1 + v2), .int (-1000000), .int 1000000]) (rest := []) (st1 := [.int x8]) (c_X11_within G e) B hw hz hc0 my_X11_within mv_X11_within tw_4_12 ⟨Nat.le_of_ble_eq_true rfl, Nat.le_of_ble_eq_true rfl⟩ ⟨Nat.zero_le _, Nat.zero_le _⟩ rfl hl.1 rfl rfl (Nat.le_of_ble_eq_true rfl) dX7_joined_51 (fun H locs hw => ?_)
    obtain rfl := so hf
    exact q_iret B hw hz hc0 hr hlk dX7_joined_54
  have hf := (if_neg c1_m1).symm.trans hf
  refine lv_tableOut (tgt := 138) hx hb dX7_joined_1 (sw_out (fun k h1 h2 => ?_)) (by decide) ?_
  · rcases (show k = (-7) ∨ k = (-6) ∨ k = (-5) ∨ k = (-4) ∨ k = (-3) ∨ k = (-2) ∨ k = (-1) by omega) with rfl | rfl | rfl | rfl | rfl | rfl | rfl
    · exact fun q => c1_m7 (Int32.toInt_inj.mp q)
    · exact fun q => c1_m6 (Int32.toInt_inj.mp q)
    · exact fun q => c1_m5 (Int32.toInt_inj.mp q)
    · exact fun q => c1_m4 (Int32.toInt_inj.mp q)
    · exact fun q => c1_m3 (Int32.toInt_inj.mp q)
    · exact fun q => c1_m2 (Int32.toInt_inj.mp q)
    · exact fun q => c1_m1 (Int32.toInt_inj.mp q)
  refine lv_iload_n hx hb dX7_joined_138 rfl (lv_at hl 1 rfl) ?_
  refine lv_iload_n hx hb dX7_joined_139 rfl (lv_at hl 2 rfl) ?_
  refine lv_ior hx hb dX7_joined_140 ?_
  obtain rfl := so hf
  exact q_iret B hw hz hc0 hr hlk dX7_joined_141
/-! SecondLife$Reckoner.factAt(I)I -/
def f_X7_factAt (z : Sh) (h : Hp) (v0 : Nat) (v1 : Int32) : Option (Int32) :=
  if z.K v0 = 7 then
    if v1 < 0 then
      some (0 : Int32)
    else
      (gR z h 7 v0 0).bind fun a2 =>
      (aL z a2).bind fun x3 =>
      if x3 ≤ v1 then
        some (0 : Int32)
      else
        (gR z h 7 v0 0).bind fun a5 =>
        (ldI z h a5 v1).bind fun x6 =>
        some x6
  else none
theorem k_X7_factAt {z : Sh} {h : Hp} {v0 : Nat} {v1 : Int32} {w : Int32} (hf : f_X7_factAt z h v0 v1 = some w) : z.K v0 = 7 := by
  unfold f_X7_factAt at hf
  exact (if_some hf).1
set_option maxHeartbeats 4000000 in
theorem c_X7_factAt {l : Launch} {s0 : State} {E : Ev} (G : Gl s0 E) {z : Sh} {h : Hp} {v0 : Nat} {v1 : Int32} {r : Int32} (hf : f_X7_factAt z h v0 v1 = some r) : Ct l s0 E yX7_factAt cX7_factAt 2 (some .int) 0 0 [.ref v0, .int v1] z h h (some (.int r)) := by
  refine Ct.of G (by decide) (Nat.le_of_ble_eq_true rfl) ?_
  intro p e s m below meth c ls B hw hz hc0 hr hlk hl
  have B : Bd p s0 s E m c cX7_factAt 2 RX7 := B
  have hx := B.1
  have hb := B.2.1
  have hl : lv_has ls 2 [(0, .ref v0), (1, .int v1)] := hl
  unfold f_X7_factAt at hf
  obtain ⟨_, hf⟩ := if_some hf
  refine lv_iload_n hx hb dX7_factAt_0 rfl (lv_at hl 1 rfl) ?_
  refine lv_if_lt (tgt := 22) hx hb dX7_factAt_1 (by decide) (fun c1 => ?_) (fun c1 => ?_)
  · have hf := (if_pos c1).symm.trans hf
    refine lv_iconst (v := 0) hx hb dX7_factAt_22 (by decide) ?_
    obtain rfl := so hf
    exact q_iret B hw hz hc0 hr hlk dX7_factAt_23
  · have hf := (if_neg c1).symm.trans hf
    refine lv_iload_n hx hb dX7_factAt_4 rfl (lv_at hl 1 rfl) ?_
    refine lv_aload_n hx hb dX7_factAt_5 rfl (lv_at hl 0 rfl) ?_
    obtain ⟨a2, e, hf⟩ := ob hf
    refine q_getR e B hw fd_7_0.1 fd_7_0.2.1 fd_7_0.2.2.1 fd_7_0.2.2.2.1 fd_7_0.2.2.2.2 rfl tw_1_192 dX7_factAt_6 ?_
    obtain ⟨x3, e, hf⟩ := ob hf
    refine q_len e B hw dX7_factAt_9 ?_
    refine lv_icmp_ge (tgt := 22) hx hb dX7_factAt_10 (by decide) (fun c4 => ?_) (fun c4 => ?_)
    · have hf := (if_pos c4).symm.trans hf
      refine lv_iconst (v := 0) hx hb dX7_factAt_22 (by decide) ?_
      obtain rfl := so hf
      exact q_iret B hw hz hc0 hr hlk dX7_factAt_23
    · have hf := (if_neg c4).symm.trans hf
      refine lv_aload_n hx hb dX7_factAt_13 rfl (lv_at hl 0 rfl) ?_
      obtain ⟨a5, e, hf⟩ := ob hf
      refine q_getR e B hw fd_7_0.1 fd_7_0.2.1 fd_7_0.2.2.1 fd_7_0.2.2.2.1 fd_7_0.2.2.2.2 rfl tw_1_192 dX7_factAt_14 ?_
      refine lv_iload_n hx hb dX7_factAt_17 rfl (lv_at hl 1 rfl) ?_
      obtain ⟨x6, e, hf⟩ := ob hf
      refine q_ldI e B hw dX7_factAt_18 ?_
      refine lv_goto (tgt := 23) hx hb dX7_factAt_19 (by decide) ?_
      obtain rfl := so hf
      exact q_iret B hw hz hc0 hr hlk dX7_factAt_23
/-! SecondLife$Town.<init>()V -/
def f_X8_init (z : Sh) (h : Hp) (v0 : Nat) : Option (Hp × Sh) :=
  if z.K v0 = 8 then
    gd2 z <|
    (pI z h 8 v0 0 1).bind fun h1 =>
    (pI z h1 8 v0 1 1).bind fun h2 =>
    (pI z h2 8 v0 2 0).bind fun h3 =>
    (pI z h3 8 v0 3 0).bind fun h4 =>
    (pI z h4 8 v0 4 0).bind fun h5 =>
    (pI z h5 8 v0 5 0).bind fun h6 =>
    (nwA z h6 14 6).bind fun (a7, h8, z9) =>
    gd2 z9 <|
    (pR z9 h8 8 v0 6 (some a7)).bind fun h10 =>
    (nwA z9 h10 14 6).bind fun (a11, h12, z13) =>
    gd2 z13 <|
    (pR z13 h12 8 v0 7 (some a11)).bind fun h14 =>
    (pR z13 h14 8 v0 8 (some (z13.st 0))).bind fun h15 =>
    (pR z13 h15 8 v0 9 (some (z13.st 1))).bind fun h16 =>
    some (h16, z13)
  else none
theorem k_X8_init {z : Sh} {h : Hp} {v0 : Nat} {w : Hp × Sh} (hf : f_X8_init z h v0 = some w) : z.K v0 = 8 := by
  unfold f_X8_init at hf
  exact (if_some hf).1
theorem mo_X8_init {z : Sh} {h : Hp} {v0 : Nat} {h' : Hp} {zE : Sh} (hf : f_X8_init z h v0 = some (h', zE)) : z.sz ≤ zE.sz ∧ z.sl ≤ zE.sl := by
  unfold f_X8_init at hf
  exact (gd2_some (if_some hf).2).1
set_option maxHeartbeats 4000000 in
theorem c_X8_init {l : Launch} {s0 : State} {E : Ev} (G : Gl s0 E) {z : Sh} {h : Hp} {v0 : Nat} {h' : Hp} {zE : Sh} (hf : f_X8_init z h v0 = some (h', zE)) : Ca l s0 E yX8_init cX8_init 1 none 1 24 [.ref v0] z zE h h' (none) := by
  refine Ca.of G (by decide +kernel) (Nat.le_of_ble_eq_true rfl) (mo_X8_init hf) ?_
  intro p e s m below meth c ls B hw hM hr hlk hnm0 hl
  have B : Bd p s0 s E m c cX8_init 1 RX8 := B
  have hx := B.1
  have hb := B.2.1
  have hl : lv_has ls 1 [(0, .ref v0)] := hl
  have hin : meth.name = "<init>" := hnm0
  unfold f_X8_init at hf
  obtain ⟨_, hf⟩ := if_some hf
  obtain ⟨_, hf⟩ := gd2_some hf
  refine lv_aload_n hx hb dX8_init_0 rfl (lv_at hl 0 rfl) ?_
  refine q_obj B hl.1 tw_1_42 tw_1_29 tw_1_30 (Nat.le_of_ble_eq_true rfl) (Nat.le_of_ble_eq_true rfl) dX8_init_1 ?_
  refine lv_aload_n hx hb dX8_init_4 rfl (lv_at hl 0 rfl) ?_
  refine lv_iconst (v := 1) hx hb dX8_init_5 (by decide) ?_
  obtain ⟨h1, e, hf⟩ := ob hf
  refine q_putI e B hw fd_8_0.1 fd_8_0.2.1 fd_8_0.2.2.1 fd_8_0.2.2.2.1 fd_8_0.2.2.2.2 rfl rfl (tyX8_ok 0 (by decide)) tyX8 tyX8_ok nmX8 tw_1_47 dX8_init_6 (fun H locs hw => ?_)
  refine lv_aload_n hx hb dX8_init_9 rfl (lv_at hl 0 rfl) ?_
  refine lv_iconst (v := 1) hx hb dX8_init_10 (by decide) ?_
  obtain ⟨h2, e, hf⟩ := ob hf
  refine q_putI e B hw fd_8_1.1 fd_8_1.2.1 fd_8_1.2.2.1 fd_8_1.2.2.2.1 fd_8_1.2.2.2.2 rfl rfl (tyX8_ok 1 (by decide)) tyX8 tyX8_ok nmX8 tw_1_55 dX8_init_11 (fun H locs hw => ?_)
  refine lv_aload_n hx hb dX8_init_14 rfl (lv_at hl 0 rfl) ?_
  refine lv_iconst (v := 0) hx hb dX8_init_15 (by decide) ?_
  obtain ⟨h3, e, hf⟩ := ob hf
  refine q_putI e B hw fd_8_2.1 fd_8_2.2.1 fd_8_2.2.2.1 fd_8_2.2.2.2.1 fd_8_2.2.2.2.2 rfl rfl (tyX8_ok 2 (by decide)) tyX8 tyX8_ok nmX8 tw_1_60 dX8_init_16 (fun H locs hw => ?_)
  refine lv_aload_n hx hb dX8_init_19 rfl (lv_at hl 0 rfl) ?_
  refine lv_iconst (v := 0) hx hb dX8_init_20 (by decide) ?_
  obtain ⟨h4, e, hf⟩ := ob hf
  refine q_putI e B hw fd_8_3.1 fd_8_3.2.1 fd_8_3.2.2.1 fd_8_3.2.2.2.1 fd_8_3.2.2.2.2 rfl rfl (tyX8_ok 3 (by decide)) tyX8 tyX8_ok nmX8 tw_1_63 dX8_init_21 (fun H locs hw => ?_)
  refine lv_aload_n hx hb dX8_init_24 rfl (lv_at hl 0 rfl) ?_
  refine lv_iconst (v := 0) hx hb dX8_init_25 (by decide) ?_
  obtain ⟨h5, e, hf⟩ := ob hf
  refine q_putI e B hw fd_8_4.1 fd_8_4.2.1 fd_8_4.2.2.1 fd_8_4.2.2.2.1 fd_8_4.2.2.2.2 rfl rfl (tyX8_ok 4 (by decide)) tyX8 tyX8_ok nmX8 tw_1_66 dX8_init_26 (fun H locs hw => ?_)
  refine lv_aload_n hx hb dX8_init_29 rfl (lv_at hl 0 rfl) ?_
  refine lv_iconst (v := 0) hx hb dX8_init_30 (by decide) ?_
  obtain ⟨h6, e, hf⟩ := ob hf
  refine q_putI e B hw fd_8_5.1 fd_8_5.2.1 fd_8_5.2.2.1 fd_8_5.2.2.2.1 fd_8_5.2.2.2.2 rfl rfl (tyX8_ok 5 (by decide)) tyX8 tyX8_ok nmX8 tw_1_69 dX8_init_31 (fun H locs hw => ?_)
  refine lv_aload_n hx hb dX8_init_34 rfl (lv_at hl 0 rfl) ?_
  refine lv_bipush (v := 6) hx hb dX8_init_35 (by decide) ?_
  obtain ⟨⟨a7, h8, z9⟩, e, hf⟩ := ob hf
  obtain ⟨hg, hf⟩ := gd2_some hf
  refine q_newA (t0 := 1) e hg B hw hM (by decide) rfl rfl rfl (cfn_14 E _ _) arn_14 tw_1_102 dX8_init_37 (fun H locs hw hM => ?_)
  obtain ⟨h10, e, hf⟩ := ob hf
  refine q_putRF e B hw hin fd_8_6.1 fd_8_6.2.1 fd_8_6.2.2.1 fd_8_6.2.2.2.1 fd_8_6.2.2.2.2 rfl rfl rfl (tyX8_ok 6 (by decide)) (Or.inr ⟨_, rfl⟩) tyX8 tyX8_ok nmX8 tw_1_72 dX8_init_39 (fun H locs hw => ?_)
  refine lv_aload_n hx hb dX8_init_42 rfl (lv_at hl 0 rfl) ?_
  refine lv_bipush (v := 6) hx hb dX8_init_43 (by decide) ?_
  obtain ⟨⟨a11, h12, z13⟩, e, hf⟩ := ob hf
  obtain ⟨hg, hf⟩ := gd2_some hf
  refine q_newA (t0 := 1) e hg B hw hM (by decide) rfl rfl rfl (cfn_14 E _ _) arn_14 tw_1_102 dX8_init_45 (fun H locs hw hM => ?_)
  obtain ⟨h14, e, hf⟩ := ob hf
  refine q_putRF e B hw hin fd_8_7.1 fd_8_7.2.1 fd_8_7.2.2.1 fd_8_7.2.2.2.1 fd_8_7.2.2.2.2 rfl rfl rfl (tyX8_ok 7 (by decide)) (Or.inr ⟨_, rfl⟩) tyX8 tyX8_ok nmX8 tw_1_73 dX8_init_47 (fun H locs hw => ?_)
  refine lv_aload_n hx hb dX8_init_50 rfl (lv_at hl 0 rfl) ?_
  refine q_gsR (k := 0) G.2.2.1 B hw rfl tw_1_43 dX8_init_51 ?_
  obtain ⟨h15, e, hf⟩ := ob hf
  refine q_putR e B hw fd_8_8.1 fd_8_8.2.1 fd_8_8.2.2.1 fd_8_8.2.2.2.1 fd_8_8.2.2.2.2 rfl rfl (tyX8_ok 8 (by decide)) (Or.inr ⟨_, rfl⟩) tyX8 tyX8_ok nmX8 tw_1_74 dX8_init_54 (fun H locs hw => ?_)
  refine lv_aload_n hx hb dX8_init_57 rfl (lv_at hl 0 rfl) ?_
  refine q_gsR (k := 1) G.2.2.2.1 B hw rfl tw_1_45 dX8_init_58 ?_
  obtain ⟨h16, e, hf⟩ := ob hf
  refine q_putR e B hw fd_8_9.1 fd_8_9.2.1 fd_8_9.2.2.1 fd_8_9.2.2.2.1 fd_8_9.2.2.2.2 rfl rfl (tyX8_ok 9 (by decide)) (Or.inr ⟨_, rfl⟩) tyX8 tyX8_ok nmX8 tw_1_77 dX8_init_61 (fun H locs hw => ?_)
  obtain ⟨rfl, rfl⟩ := so2 hf
  exact q_vret B hw hM.hz hM.hc0 hr hlk dX8_init_64
/-! SecondLife$Town.hasTrade(J)Z -/
def f_X8_hasTrade (z : Sh) (h : Hp) (v0 : Nat) (v1 : Int64) : Option (Int32) :=
  if z.K v0 = 8 then
    if (lg_cmp v1 0) < 0 then
      some 0
    else
      (gI z h 8 v0 1).bind fun x2 =>
      if 0 ≤ (lg_cmp v1 (Int32.toInt64 x2)) then
        some 0
      else
        some 1
  else none
theorem k_X8_hasTrade {z : Sh} {h : Hp} {v0 : Nat} {v1 : Int64} {w : Int32} (hf : f_X8_hasTrade z h v0 v1 = some w) : z.K v0 = 8 := by
  unfold f_X8_hasTrade at hf
  exact (if_some hf).1
set_option maxHeartbeats 4000000 in
theorem c_X8_hasTrade {l : Launch} {s0 : State} {E : Ev} (G : Gl s0 E) {z : Sh} {h : Hp} {v0 : Nat} {v1 : Int64} {r : Int32} (hf : f_X8_hasTrade z h v0 v1 = some r) : Ct l s0 E yX8_hasTrade cX8_hasTrade 3 (some .boolean) 0 0 [.ref v0, .long v1] z h h (some (.int r)) := by
  refine Ct.of G (by decide) (Nat.le_of_ble_eq_true rfl) ?_
  intro p e s m below meth c ls B hw hz hc0 hr hlk hl
  have B : Bd p s0 s E m c cX8_hasTrade 3 RX8 := B
  have hx := B.1
  have hb := B.2.1
  have hl : lv_has ls 3 [(0, .ref v0), (1, .long v1)] := hl
  unfold f_X8_hasTrade at hf
  obtain ⟨_, hf⟩ := if_some hf
  refine lv_lload_n hx hb dX8_hasTrade_0 rfl (lv_at hl 1 rfl) ?_
  refine lv_lconst (v := 0) hx hb dX8_hasTrade_1 (by decide) ?_
  refine W.lcmp hx hb dX8_hasTrade_2 ?_
  refine lv_if_lt (tgt := 20) hx hb dX8_hasTrade_3 (by decide) (fun c1 => ?_) (fun c1 => ?_)
  · have hf := (if_pos c1).symm.trans hf
    refine lv_iconst (v := 0) hx hb dX8_hasTrade_20 (by decide) ?_
    obtain rfl := so hf
    exact q_zret (Or.inl rfl) B hw hz hc0 hr hlk dX8_hasTrade_21
  · have hf := (if_neg c1).symm.trans hf
    refine lv_lload_n hx hb dX8_hasTrade_6 rfl (lv_at hl 1 rfl) ?_
    refine lv_aload_n hx hb dX8_hasTrade_7 rfl (lv_at hl 0 rfl) ?_
    obtain ⟨x2, e, hf⟩ := ob hf
    refine q_getI e B hw fd_8_1.1 fd_8_1.2.1 fd_8_1.2.2.1 fd_8_1.2.2.2.1 fd_8_1.2.2.2.2 rfl tw_1_55 dX8_hasTrade_8 ?_
    refine lv_i2l (v := (Int32.toInt64 x2)) hx hb dX8_hasTrade_11 rfl ?_
    refine W.lcmp hx hb dX8_hasTrade_12 ?_
    refine lv_if_ge (tgt := 20) hx hb dX8_hasTrade_13 (by decide) (fun c3 => ?_) (fun c3 => ?_)
    · have hf := (if_pos c3).symm.trans hf
      refine lv_iconst (v := 0) hx hb dX8_hasTrade_20 (by decide) ?_
      obtain rfl := so hf
      exact q_zret (Or.inl rfl) B hw hz hc0 hr hlk dX8_hasTrade_21
    · have hf := (if_neg c3).symm.trans hf
      refine lv_iconst (v := 1) hx hb dX8_hasTrade_16 (by decide) ?_
      refine lv_goto (tgt := 21) hx hb dX8_hasTrade_17 (by decide) ?_
      obtain rfl := so hf
      exact q_zret (Or.inr rfl) B hw hz hc0 hr hlk dX8_hasTrade_21
/-! SecondLife$Town.talentOf(I)I -/
def f_X8_talentOf (z : Sh) (h : Hp) (v0 : Nat) (v1 : Int32) : Option (Int32) :=
  if z.K v0 = 8 then
    if v1 < 0 then
      some (0 : Int32)
    else
      (gR z h 8 v0 6).bind fun a2 =>
      (aL z a2).bind fun x3 =>
      if x3 ≤ v1 then
        some (0 : Int32)
      else
        (gR z h 8 v0 6).bind fun a5 =>
        (ldI z h a5 v1).bind fun x6 =>
        some x6
  else none
theorem k_X8_talentOf {z : Sh} {h : Hp} {v0 : Nat} {v1 : Int32} {w : Int32} (hf : f_X8_talentOf z h v0 v1 = some w) : z.K v0 = 8 := by
  unfold f_X8_talentOf at hf
  exact (if_some hf).1
set_option maxHeartbeats 4000000 in
theorem c_X8_talentOf {l : Launch} {s0 : State} {E : Ev} (G : Gl s0 E) {z : Sh} {h : Hp} {v0 : Nat} {v1 : Int32} {r : Int32} (hf : f_X8_talentOf z h v0 v1 = some r) : Ct l s0 E yX8_talentOf cX8_talentOf 2 (some .int) 0 0 [.ref v0, .int v1] z h h (some (.int r)) := by
  refine Ct.of G (by decide) (Nat.le_of_ble_eq_true rfl) ?_
  intro p e s m below meth c ls B hw hz hc0 hr hlk hl
  have B : Bd p s0 s E m c cX8_talentOf 2 RX8 := B
  have hx := B.1
  have hb := B.2.1
  have hl : lv_has ls 2 [(0, .ref v0), (1, .int v1)] := hl
  unfold f_X8_talentOf at hf
  obtain ⟨_, hf⟩ := if_some hf
  refine lv_iload_n hx hb dX8_talentOf_0 rfl (lv_at hl 1 rfl) ?_
  refine lv_if_lt (tgt := 22) hx hb dX8_talentOf_1 (by decide) (fun c1 => ?_) (fun c1 => ?_)
  · have hf := (if_pos c1).symm.trans hf
    refine lv_iconst (v := 0) hx hb dX8_talentOf_22 (by decide) ?_
    obtain rfl := so hf
    exact q_iret B hw hz hc0 hr hlk dX8_talentOf_23
  · have hf := (if_neg c1).symm.trans hf
    refine lv_iload_n hx hb dX8_talentOf_4 rfl (lv_at hl 1 rfl) ?_
    refine lv_aload_n hx hb dX8_talentOf_5 rfl (lv_at hl 0 rfl) ?_
    obtain ⟨a2, e, hf⟩ := ob hf
    refine q_getR e B hw fd_8_6.1 fd_8_6.2.1 fd_8_6.2.2.1 fd_8_6.2.2.2.1 fd_8_6.2.2.2.2 rfl tw_1_72 dX8_talentOf_6 ?_
    obtain ⟨x3, e, hf⟩ := ob hf
    refine q_len e B hw dX8_talentOf_9 ?_
    refine lv_icmp_ge (tgt := 22) hx hb dX8_talentOf_10 (by decide) (fun c4 => ?_) (fun c4 => ?_)
    · have hf := (if_pos c4).symm.trans hf
      refine lv_iconst (v := 0) hx hb dX8_talentOf_22 (by decide) ?_
      obtain rfl := so hf
      exact q_iret B hw hz hc0 hr hlk dX8_talentOf_23
    · have hf := (if_neg c4).symm.trans hf
      refine lv_aload_n hx hb dX8_talentOf_13 rfl (lv_at hl 0 rfl) ?_
      obtain ⟨a5, e, hf⟩ := ob hf
      refine q_getR e B hw fd_8_6.1 fd_8_6.2.1 fd_8_6.2.2.1 fd_8_6.2.2.2.1 fd_8_6.2.2.2.2 rfl tw_1_72 dX8_talentOf_14 ?_
      refine lv_iload_n hx hb dX8_talentOf_17 rfl (lv_at hl 1 rfl) ?_
      obtain ⟨x6, e, hf⟩ := ob hf
      refine q_ldI e B hw dX8_talentOf_18 ?_
      refine lv_goto (tgt := 23) hx hb dX8_talentOf_19 (by decide) ?_
      obtain rfl := so hf
      exact q_iret B hw hz hc0 hr hlk dX8_talentOf_23
/-! SecondLife$Town.fearOf(I)I -/
def f_X8_fearOf (z : Sh) (h : Hp) (v0 : Nat) (v1 : Int32) : Option (Int32) :=
  if z.K v0 = 8 then
    if v1 < 0 then
      some (0 : Int32)
    else
      (gR z h 8 v0 7).bind fun a2 =>
      (aL z a2).bind fun x3 =>
      if x3 ≤ v1 then
        some (0 : Int32)
      else
        (gR z h 8 v0 7).bind fun a5 =>
        (ldI z h a5 v1).bind fun x6 =>
        some x6
  else none
theorem k_X8_fearOf {z : Sh} {h : Hp} {v0 : Nat} {v1 : Int32} {w : Int32} (hf : f_X8_fearOf z h v0 v1 = some w) : z.K v0 = 8 := by
  unfold f_X8_fearOf at hf
  exact (if_some hf).1
set_option maxHeartbeats 4000000 in
theorem c_X8_fearOf {l : Launch} {s0 : State} {E : Ev} (G : Gl s0 E) {z : Sh} {h : Hp} {v0 : Nat} {v1 : Int32} {r : Int32} (hf : f_X8_fearOf z h v0 v1 = some r) : Ct l s0 E yX8_fearOf cX8_fearOf 2 (some .int) 0 0 [.ref v0, .int v1] z h h (some (.int r)) := by
  refine Ct.of G (by decide) (Nat.le_of_ble_eq_true rfl) ?_
  intro p e s m below meth c ls B hw hz hc0 hr hlk hl
  have B : Bd p s0 s E m c cX8_fearOf 2 RX8 := B
  have hx := B.1
  have hb := B.2.1
  have hl : lv_has ls 2 [(0, .ref v0), (1, .int v1)] := hl
  unfold f_X8_fearOf at hf
  obtain ⟨_, hf⟩ := if_some hf
  refine lv_iload_n hx hb dX8_fearOf_0 rfl (lv_at hl 1 rfl) ?_
  refine lv_if_lt (tgt := 22) hx hb dX8_fearOf_1 (by decide) (fun c1 => ?_) (fun c1 => ?_)
  · have hf := (if_pos c1).symm.trans hf
    refine lv_iconst (v := 0) hx hb dX8_fearOf_22 (by decide) ?_
    obtain rfl := so hf
    exact q_iret B hw hz hc0 hr hlk dX8_fearOf_23
  · have hf := (if_neg c1).symm.trans hf
    refine lv_iload_n hx hb dX8_fearOf_4 rfl (lv_at hl 1 rfl) ?_
    refine lv_aload_n hx hb dX8_fearOf_5 rfl (lv_at hl 0 rfl) ?_
    obtain ⟨a2, e, hf⟩ := ob hf
    refine q_getR e B hw fd_8_7.1 fd_8_7.2.1 fd_8_7.2.2.1 fd_8_7.2.2.2.1 fd_8_7.2.2.2.2 rfl tw_1_73 dX8_fearOf_6 ?_
    obtain ⟨x3, e, hf⟩ := ob hf
    refine q_len e B hw dX8_fearOf_9 ?_
    refine lv_icmp_ge (tgt := 22) hx hb dX8_fearOf_10 (by decide) (fun c4 => ?_) (fun c4 => ?_)
    · have hf := (if_pos c4).symm.trans hf
      refine lv_iconst (v := 0) hx hb dX8_fearOf_22 (by decide) ?_
      obtain rfl := so hf
      exact q_iret B hw hz hc0 hr hlk dX8_fearOf_23
    · have hf := (if_neg c4).symm.trans hf
      refine lv_aload_n hx hb dX8_fearOf_13 rfl (lv_at hl 0 rfl) ?_
      obtain ⟨a5, e, hf⟩ := ob hf
      refine q_getR e B hw fd_8_7.1 fd_8_7.2.1 fd_8_7.2.2.1 fd_8_7.2.2.2.1 fd_8_7.2.2.2.2 rfl tw_1_73 dX8_fearOf_14 ?_
      refine lv_iload_n hx hb dX8_fearOf_17 rfl (lv_at hl 1 rfl) ?_
      obtain ⟨x6, e, hf⟩ := ob hf
      refine q_ldI e B hw dX8_fearOf_18 ?_
      refine lv_goto (tgt := 23) hx hb dX8_fearOf_19 (by decide) ?_
      obtain rfl := so hf
      exact q_iret B hw hz hc0 hr hlk dX8_fearOf_23
/-! SecondLife$Town.addPerson(II)V -/
def f_X8_addPerson (z : Sh) (h : Hp) (v0 : Nat) (v1 : Int32) (v2 : Int32) : Option (Hp) :=
  if z.K v0 = 8 then
    (gI z h 8 v0 2).bind fun x1 =>
    (gR z h 8 v0 6).bind fun a2 =>
    (aL z a2).bind fun x3 =>
    if x3 ≤ x1 then
      some h
    else
      (gI z h 8 v0 2).bind fun x5 =>
      (gR z h 8 v0 7).bind fun a6 =>
      (aL z a6).bind fun x7 =>
      if x7 ≤ x5 then
        some h
      else
        (gR z h 8 v0 6).bind fun a9 =>
        (gI z h 8 v0 2).bind fun x10 =>
        (stI z h a9 x10 v1).bind fun h11 =>
        (gR z h11 8 v0 7).bind fun a12 =>
        (gI z h11 8 v0 2).bind fun x13 =>
        (stI z h11 a12 x13 v2).bind fun h14 =>
        (gI z h14 8 v0 2).bind fun x15 =>
        (pI z h14 8 v0 2 (x15 + 1)).bind fun h16 =>
        some h16
  else none
theorem k_X8_addPerson {z : Sh} {h : Hp} {v0 : Nat} {v1 : Int32} {v2 : Int32} {w : Hp} (hf : f_X8_addPerson z h v0 v1 v2 = some w) : z.K v0 = 8 := by
  unfold f_X8_addPerson at hf
  exact (if_some hf).1
set_option maxHeartbeats 4000000 in
theorem c_X8_addPerson {l : Launch} {s0 : State} {E : Ev} (G : Gl s0 E) {z : Sh} {h : Hp} {v0 : Nat} {v1 : Int32} {v2 : Int32} {h' : Hp} (hf : f_X8_addPerson z h v0 v1 v2 = some h') : Ct l s0 E yX8_addPerson cX8_addPerson 3 none 0 0 [.ref v0, .int v1, .int v2] z h h' (none) := by
  refine Ct.of G (by decide) (Nat.le_of_ble_eq_true rfl) ?_
  intro p e s m below meth c ls B hw hz hc0 hr hlk hl
  have B : Bd p s0 s E m c cX8_addPerson 3 RX8 := B
  have hx := B.1
  have hb := B.2.1
  have hl : lv_has ls 3 [(0, .ref v0), (1, .int v1), (2, .int v2)] := hl
  unfold f_X8_addPerson at hf
  obtain ⟨_, hf⟩ := if_some hf
  refine lv_aload_n hx hb dX8_addPerson_0 rfl (lv_at hl 0 rfl) ?_
  obtain ⟨x1, e, hf⟩ := ob hf
  refine q_getI e B hw fd_8_2.1 fd_8_2.2.1 fd_8_2.2.2.1 fd_8_2.2.2.2.1 fd_8_2.2.2.2.2 rfl tw_1_60 dX8_addPerson_1 ?_
  refine lv_aload_n hx hb dX8_addPerson_4 rfl (lv_at hl 0 rfl) ?_
  obtain ⟨a2, e, hf⟩ := ob hf
  refine q_getR e B hw fd_8_6.1 fd_8_6.2.1 fd_8_6.2.2.1 fd_8_6.2.2.2.1 fd_8_6.2.2.2.2 rfl tw_1_72 dX8_addPerson_5 ?_
  obtain ⟨x3, e, hf⟩ := ob hf
  refine q_len e B hw dX8_addPerson_8 ?_
  refine lv_icmp_ge (tgt := 54) hx hb dX8_addPerson_9 (by decide) (fun c4 => ?_) (fun c4 => ?_)
  · have hf := (if_pos c4).symm.trans hf
    obtain rfl := so hf
    exact q_vret B hw hz hc0 hr hlk dX8_addPerson_54
  · have hf := (if_neg c4).symm.trans hf
    refine lv_aload_n hx hb dX8_addPerson_12 rfl (lv_at hl 0 rfl) ?_
    obtain ⟨x5, e, hf⟩ := ob hf
    refine q_getI e B hw fd_8_2.1 fd_8_2.2.1 fd_8_2.2.2.1 fd_8_2.2.2.2.1 fd_8_2.2.2.2.2 rfl tw_1_60 dX8_addPerson_13 ?_
    refine lv_aload_n hx hb dX8_addPerson_16 rfl (lv_at hl 0 rfl) ?_
    obtain ⟨a6, e, hf⟩ := ob hf
    refine q_getR e B hw fd_8_7.1 fd_8_7.2.1 fd_8_7.2.2.1 fd_8_7.2.2.2.1 fd_8_7.2.2.2.2 rfl tw_1_73 dX8_addPerson_17 ?_
    obtain ⟨x7, e, hf⟩ := ob hf
    refine q_len e B hw dX8_addPerson_20 ?_
    refine lv_icmp_ge (tgt := 54) hx hb dX8_addPerson_21 (by decide) (fun c8 => ?_) (fun c8 => ?_)
    · have hf := (if_pos c8).symm.trans hf
      obtain rfl := so hf
      exact q_vret B hw hz hc0 hr hlk dX8_addPerson_54
    · have hf := (if_neg c8).symm.trans hf
      refine lv_aload_n hx hb dX8_addPerson_24 rfl (lv_at hl 0 rfl) ?_
      obtain ⟨a9, e, hf⟩ := ob hf
      refine q_getR e B hw fd_8_6.1 fd_8_6.2.1 fd_8_6.2.2.1 fd_8_6.2.2.2.1 fd_8_6.2.2.2.2 rfl tw_1_72 dX8_addPerson_25 ?_
      refine lv_aload_n hx hb dX8_addPerson_28 rfl (lv_at hl 0 rfl) ?_
      obtain ⟨x10, e, hf⟩ := ob hf
      refine q_getI e B hw fd_8_2.1 fd_8_2.2.1 fd_8_2.2.2.1 fd_8_2.2.2.2.1 fd_8_2.2.2.2.2 rfl tw_1_60 dX8_addPerson_29 ?_
      refine lv_iload_n hx hb dX8_addPerson_32 rfl (lv_at hl 1 rfl) ?_
      obtain ⟨h11, e, hf⟩ := ob hf
      refine q_stI e B hw dX8_addPerson_33 (fun H locs hw => ?_)
      refine lv_aload_n hx hb dX8_addPerson_34 rfl (lv_at hl 0 rfl) ?_
      obtain ⟨a12, e, hf⟩ := ob hf
      refine q_getR e B hw fd_8_7.1 fd_8_7.2.1 fd_8_7.2.2.1 fd_8_7.2.2.2.1 fd_8_7.2.2.2.2 rfl tw_1_73 dX8_addPerson_35 ?_
      refine lv_aload_n hx hb dX8_addPerson_38 rfl (lv_at hl 0 rfl) ?_
      obtain ⟨x13, e, hf⟩ := ob hf
      refine q_getI e B hw fd_8_2.1 fd_8_2.2.1 fd_8_2.2.2.1 fd_8_2.2.2.2.1 fd_8_2.2.2.2.2 rfl tw_1_60 dX8_addPerson_39 ?_
      refine lv_iload_n hx hb dX8_addPerson_42 rfl (lv_at hl 2 rfl) ?_
      obtain ⟨h14, e, hf⟩ := ob hf
      refine q_stI e B hw dX8_addPerson_43 (fun H locs hw => ?_)
      refine lv_aload_n hx hb dX8_addPerson_44 rfl (lv_at hl 0 rfl) ?_
      refine lv_dup hx hb dX8_addPerson_45 rfl ?_
      obtain ⟨x15, e, hf⟩ := ob hf
      refine q_getI e B hw fd_8_2.1 fd_8_2.2.1 fd_8_2.2.2.1 fd_8_2.2.2.2.1 fd_8_2.2.2.2.2 rfl tw_1_60 dX8_addPerson_46 ?_
      refine lv_iconst (v := 1) hx hb dX8_addPerson_49 (by decide) ?_
      refine lv_iadd hx hb dX8_addPerson_50 ?_
      obtain ⟨h16, e, hf⟩ := ob hf
      refine q_putI e B hw fd_8_2.1 fd_8_2.2.1 fd_8_2.2.2.1 fd_8_2.2.2.2.1 fd_8_2.2.2.2.2 rfl rfl (tyX8_ok 2 (by decide)) tyX8 tyX8_ok nmX8 tw_1_60 dX8_addPerson_51 (fun H locs hw => ?_)
      obtain rfl := so hf
      exact q_vret B hw hz hc0 hr hlk dX8_addPerson_54
/-! SecondLife$Tray.<init>()V -/
def f_X9_init (z : Sh) (h : Hp) (v0 : Nat) : Option (Hp × Sh) :=
  if z.K v0 = 9 then
    gd2 z <|
    (nwA z h 15 40).bind fun (a1, h2, z3) =>
    gd2 z3 <|
    (pR z3 h2 9 v0 0 (some a1)).bind fun h4 =>
    (pZ z3 h4 9 v0 1 0).bind fun h5 =>
    (pI z3 h5 9 v0 2 0).bind fun h6 =>
    (pI z3 h6 9 v0 3 0).bind fun h7 =>
    some (h7, z3)
  else none
theorem k_X9_init {z : Sh} {h : Hp} {v0 : Nat} {w : Hp × Sh} (hf : f_X9_init z h v0 = some w) : z.K v0 = 9 := by
  unfold f_X9_init at hf
  exact (if_some hf).1
theorem mo_X9_init {z : Sh} {h : Hp} {v0 : Nat} {h' : Hp} {zE : Sh} (hf : f_X9_init z h v0 = some (h', zE)) : z.sz ≤ zE.sz ∧ z.sl ≤ zE.sl := by
  unfold f_X9_init at hf
  exact (gd2_some (if_some hf).2).1
set_option maxHeartbeats 4000000 in
theorem c_X9_init {l : Launch} {s0 : State} {E : Ev} (G : Gl s0 E) {z : Sh} {h : Hp} {v0 : Nat} {h' : Hp} {zE : Sh} (hf : f_X9_init z h v0 = some (h', zE)) : Ca l s0 E yX9_init cX9_init 1 none 1 24 [.ref v0] z zE h h' (none) := by
  refine Ca.of G (by decide +kernel) (Nat.le_of_ble_eq_true rfl) (mo_X9_init hf) ?_
  intro p e s m below meth c ls B hw hM hr hlk hnm0 hl
  have B : Bd p s0 s E m c cX9_init 1 RX9 := B
  have hx := B.1
  have hb := B.2.1
  have hl : lv_has ls 1 [(0, .ref v0)] := hl
  have hin : meth.name = "<init>" := hnm0
  unfold f_X9_init at hf
  obtain ⟨_, hf⟩ := if_some hf
  obtain ⟨_, hf⟩ := gd2_some hf
  refine lv_aload_n hx hb dX9_init_0 rfl (lv_at hl 0 rfl) ?_
  refine q_obj B hl.1 tw_2_84 tw_1_29 tw_1_30 (Nat.le_of_ble_eq_true rfl) (Nat.le_of_ble_eq_true rfl) dX9_init_1 ?_
  refine lv_aload_n hx hb dX9_init_4 rfl (lv_at hl 0 rfl) ?_
  refine lv_bipush (v := 40) hx hb dX9_init_5 (by decide) ?_
  obtain ⟨⟨a1, h2, z3⟩, e, hf⟩ := ob hf
  obtain ⟨hg, hf⟩ := gd2_some hf
  refine q_newA (t0 := 2) e hg B hw hM (by decide) rfl rfl rfl (cfn_15 E _ _) arn_15 tw_2_42 dX9_init_7 (fun H locs hw hM => ?_)
  obtain ⟨h4, e, hf⟩ := ob hf
  refine q_putRF e B hw hin fd_9_0.1 fd_9_0.2.1 fd_9_0.2.2.1 fd_9_0.2.2.2.1 fd_9_0.2.2.2.2 rfl rfl rfl (tyX9_ok 0 (by decide)) (Or.inr ⟨_, rfl⟩) tyX9 tyX9_ok nmX9 tw_2_85 dX9_init_9 (fun H locs hw => ?_)
  refine lv_aload_n hx hb dX9_init_12 rfl (lv_at hl 0 rfl) ?_
  refine lv_iconst (v := 0) hx hb dX9_init_13 (by decide) ?_
  obtain ⟨h5, e, hf⟩ := ob hf
  refine q_putZ e B hw fd_9_1.1 fd_9_1.2.1 fd_9_1.2.2.1 fd_9_1.2.2.2.1 fd_9_1.2.2.2.2 rfl rfl (tyX9_ok 1 (by decide)) tyX9 tyX9_ok nmX9 tw_2_86 dX9_init_14 (fun H locs hw => ?_)
  refine lv_aload_n hx hb dX9_init_17 rfl (lv_at hl 0 rfl) ?_
  refine lv_iconst (v := 0) hx hb dX9_init_18 (by decide) ?_
  obtain ⟨h6, e, hf⟩ := ob hf
  refine q_putI e B hw fd_9_2.1 fd_9_2.2.1 fd_9_2.2.2.1 fd_9_2.2.2.2.1 fd_9_2.2.2.2.2 rfl rfl (tyX9_ok 2 (by decide)) tyX9 tyX9_ok nmX9 tw_2_88 dX9_init_19 (fun H locs hw => ?_)
  refine lv_aload_n hx hb dX9_init_22 rfl (lv_at hl 0 rfl) ?_
  refine lv_iconst (v := 0) hx hb dX9_init_23 (by decide) ?_
  obtain ⟨h7, e, hf⟩ := ob hf
  refine q_putI e B hw fd_9_3.1 fd_9_3.2.1 fd_9_3.2.2.1 fd_9_3.2.2.2.1 fd_9_3.2.2.2.2 rfl rfl (tyX9_ok 3 (by decide)) tyX9 tyX9_ok nmX9 tw_2_89 dX9_init_24 (fun H locs hw => ?_)
  obtain ⟨rfl, rfl⟩ := so2 hf
  exact q_vret B hw hM.hz hM.hc0 hr hlk dX9_init_27
/-! SecondLife$Tray.number(I)J -/
def f_X9_number (z : Sh) (h : Hp) (v0 : Nat) (v1 : Int32) : Option (Int64) :=
  if z.K v0 = 9 then
    if v1 < 0 then
      some (0 : Int64)
    else
      (gI z h 9 v0 3).bind fun x2 =>
      if x2 ≤ v1 then
        some (0 : Int64)
      else
        (gR z h 9 v0 0).bind fun a4 =>
        (aL z a4).bind fun x5 =>
        if x5 ≤ v1 then
          some (0 : Int64)
        else
          (gR z h 9 v0 0).bind fun a7 =>
          (ldJ z h a7 v1).bind fun x8 =>
          some x8
  else none
theorem k_X9_number {z : Sh} {h : Hp} {v0 : Nat} {v1 : Int32} {w : Int64} (hf : f_X9_number z h v0 v1 = some w) : z.K v0 = 9 := by
  unfold f_X9_number at hf
  exact (if_some hf).1
set_option maxHeartbeats 4000000 in
theorem c_X9_number {l : Launch} {s0 : State} {E : Ev} (G : Gl s0 E) {z : Sh} {h : Hp} {v0 : Nat} {v1 : Int32} {r : Int64} (hf : f_X9_number z h v0 v1 = some r) : Ct l s0 E yX9_number cX9_number 2 (some .long) 0 0 [.ref v0, .int v1] z h h (some (.long r)) := by
  refine Ct.of G (by decide) (Nat.le_of_ble_eq_true rfl) ?_
  intro p e s m below meth c ls B hw hz hc0 hr hlk hl
  have B : Bd p s0 s E m c cX9_number 2 RX9 := B
  have hx := B.1
  have hb := B.2.1
  have hl : lv_has ls 2 [(0, .ref v0), (1, .int v1)] := hl
  unfold f_X9_number at hf
  obtain ⟨_, hf⟩ := if_some hf
  refine lv_iload_n hx hb dX9_number_0 rfl (lv_at hl 1 rfl) ?_
  refine lv_if_lt (tgt := 30) hx hb dX9_number_1 (by decide) (fun c1 => ?_) (fun c1 => ?_)
  · have hf := (if_pos c1).symm.trans hf
    refine lv_lconst (v := 0) hx hb dX9_number_30 (by decide) ?_
    obtain rfl := so hf
    exact q_lret B hw hz hc0 hr hlk dX9_number_31
  · have hf := (if_neg c1).symm.trans hf
    refine lv_iload_n hx hb dX9_number_4 rfl (lv_at hl 1 rfl) ?_
    refine lv_aload_n hx hb dX9_number_5 rfl (lv_at hl 0 rfl) ?_
    obtain ⟨x2, e, hf⟩ := ob hf
    refine q_getI e B hw fd_9_3.1 fd_9_3.2.1 fd_9_3.2.2.1 fd_9_3.2.2.2.1 fd_9_3.2.2.2.2 rfl tw_2_89 dX9_number_6 ?_
    refine lv_icmp_ge (tgt := 30) hx hb dX9_number_9 (by decide) (fun c3 => ?_) (fun c3 => ?_)
    · have hf := (if_pos c3).symm.trans hf
      refine lv_lconst (v := 0) hx hb dX9_number_30 (by decide) ?_
      obtain rfl := so hf
      exact q_lret B hw hz hc0 hr hlk dX9_number_31
    · have hf := (if_neg c3).symm.trans hf
      refine lv_iload_n hx hb dX9_number_12 rfl (lv_at hl 1 rfl) ?_
      refine lv_aload_n hx hb dX9_number_13 rfl (lv_at hl 0 rfl) ?_
      obtain ⟨a4, e, hf⟩ := ob hf
      refine q_getR e B hw fd_9_0.1 fd_9_0.2.1 fd_9_0.2.2.1 fd_9_0.2.2.2.1 fd_9_0.2.2.2.2 rfl tw_2_85 dX9_number_14 ?_
      obtain ⟨x5, e, hf⟩ := ob hf
      refine q_len e B hw dX9_number_17 ?_
      refine lv_icmp_ge (tgt := 30) hx hb dX9_number_18 (by decide) (fun c6 => ?_) (fun c6 => ?_)
      · have hf := (if_pos c6).symm.trans hf
        refine lv_lconst (v := 0) hx hb dX9_number_30 (by decide) ?_
        obtain rfl := so hf
        exact q_lret B hw hz hc0 hr hlk dX9_number_31
      · have hf := (if_neg c6).symm.trans hf
        refine lv_aload_n hx hb dX9_number_21 rfl (lv_at hl 0 rfl) ?_
        obtain ⟨a7, e, hf⟩ := ob hf
        refine q_getR e B hw fd_9_0.1 fd_9_0.2.1 fd_9_0.2.2.1 fd_9_0.2.2.2.1 fd_9_0.2.2.2.2 rfl tw_2_85 dX9_number_22 ?_
        refine lv_iload_n hx hb dX9_number_25 rfl (lv_at hl 1 rfl) ?_
        obtain ⟨x8, e, hf⟩ := ob hf
        refine q_ldJ e B hw dX9_number_26 ?_
        refine lv_goto (tgt := 31) hx hb dX9_number_27 (by decide) ?_
        obtain rfl := so hf
        exact q_lret B hw hz hc0 hr hlk dX9_number_31
/-! SecondLife$Tray.cut(J)J -/
def f_X9_cut (z : Sh) (h : Hp) (v0 : Nat) (v1 : Int64) : Option (Int64) :=
  if z.K v0 = 9 then
    (gI z h 9 v0 2).bind fun x1 =>
    if x1 = 0 then
      some (Int32.toInt64 ((Int32.toInt8 (Int64.toInt32 v1)).toInt32))
    else
      (gI z h 9 v0 2).bind fun x3 =>
      if x3 = 1 then
        some (Int32.toInt64 ((Int32.toInt16 (Int64.toInt32 v1)).toInt32))
      else
        (gI z h 9 v0 2).bind fun x5 =>
        if x5 = 2 then
          some (Int32.toInt64 (Int64.toInt32 v1))
        else
          some v1
  else none
theorem k_X9_cut {z : Sh} {h : Hp} {v0 : Nat} {v1 : Int64} {w : Int64} (hf : f_X9_cut z h v0 v1 = some w) : z.K v0 = 9 := by
  unfold f_X9_cut at hf
  exact (if_some hf).1
set_option maxHeartbeats 4000000 in
theorem c_X9_cut {l : Launch} {s0 : State} {E : Ev} (G : Gl s0 E) {z : Sh} {h : Hp} {v0 : Nat} {v1 : Int64} {r : Int64} (hf : f_X9_cut z h v0 v1 = some r) : Ct l s0 E yX9_cut cX9_cut 3 (some .long) 0 0 [.ref v0, .long v1] z h h (some (.long r)) := by
  refine Ct.of G (by decide) (Nat.le_of_ble_eq_true rfl) ?_
  intro p e s m below meth c ls B hw hz hc0 hr hlk hl
  have B : Bd p s0 s E m c cX9_cut 3 RX9 := B
  have hx := B.1
  have hb := B.2.1
  have hl : lv_has ls 3 [(0, .ref v0), (1, .long v1)] := hl
  unfold f_X9_cut at hf
  obtain ⟨_, hf⟩ := if_some hf
  refine lv_aload_n hx hb dX9_cut_0 rfl (lv_at hl 0 rfl) ?_
  obtain ⟨x1, e, hf⟩ := ob hf
  refine q_getI e B hw fd_9_2.1 fd_9_2.2.1 fd_9_2.2.2.1 fd_9_2.2.2.2.1 fd_9_2.2.2.2.2 rfl tw_2_88 dX9_cut_1 ?_
  refine lv_if_ne (tgt := 12) hx hb dX9_cut_4 (by decide) (fun c2 => ?_) (fun c2 => ?_)
  · have hf := (if_neg c2).symm.trans hf
    refine lv_aload_n hx hb dX9_cut_12 rfl (lv_at hl 0 rfl) ?_
    obtain ⟨x3, e, hf⟩ := ob hf
    refine q_getI e B hw fd_9_2.1 fd_9_2.2.1 fd_9_2.2.2.1 fd_9_2.2.2.2.1 fd_9_2.2.2.2.2 rfl tw_2_88 dX9_cut_13 ?_
    refine lv_iconst (v := 1) hx hb dX9_cut_16 (by decide) ?_
    refine lv_icmp_ne (tgt := 25) hx hb dX9_cut_17 (by decide) (fun c4 => ?_) (fun c4 => ?_)
    · have hf := (if_neg c4).symm.trans hf
      refine lv_aload_n hx hb dX9_cut_25 rfl (lv_at hl 0 rfl) ?_
      obtain ⟨x5, e, hf⟩ := ob hf
      refine q_getI e B hw fd_9_2.1 fd_9_2.2.1 fd_9_2.2.2.1 fd_9_2.2.2.2.1 fd_9_2.2.2.2.2 rfl tw_2_88 dX9_cut_26 ?_
      refine lv_iconst (v := 2) hx hb dX9_cut_29 (by decide) ?_
      refine lv_icmp_ne (tgt := 39) hx hb dX9_cut_30 (by decide) (fun c6 => ?_) (fun c6 => ?_)
      · have hf := (if_neg c6).symm.trans hf
        refine lv_lload_n hx hb dX9_cut_39 rfl (lv_at hl 1 rfl) ?_
        obtain rfl := so hf
        exact q_lret B hw hz hc0 hr hlk dX9_cut_40
      · have hf := (if_pos c6).symm.trans hf
        refine lv_lload_n hx hb dX9_cut_33 rfl (lv_at hl 1 rfl) ?_
        refine lv_l2i (v := (Int64.toInt32 v1)) hx hb dX9_cut_34 rfl ?_
        refine lv_i2l (v := (Int32.toInt64 (Int64.toInt32 v1))) hx hb dX9_cut_35 rfl ?_
        refine lv_goto (tgt := 40) hx hb dX9_cut_36 (by decide) ?_
        obtain rfl := so hf
        exact q_lret B hw hz hc0 hr hlk dX9_cut_40
    · have hf := (if_pos c4).symm.trans hf
      refine lv_lload_n hx hb dX9_cut_20 rfl (lv_at hl 1 rfl) ?_
      refine lv_l2i (v := (Int64.toInt32 v1)) hx hb dX9_cut_21 rfl ?_
      refine lv_i2s (v := ((Int32.toInt16 (Int64.toInt32 v1)).toInt32)) hx hb dX9_cut_22 rfl ?_
      refine lv_i2l (v := (Int32.toInt64 ((Int32.toInt16 (Int64.toInt32 v1)).toInt32))) hx hb dX9_cut_23 rfl ?_
      obtain rfl := so hf
      exact q_lret B hw hz hc0 hr hlk dX9_cut_24
  · have hf := (if_pos c2).symm.trans hf
    refine lv_lload_n hx hb dX9_cut_7 rfl (lv_at hl 1 rfl) ?_
    refine lv_l2i (v := (Int64.toInt32 v1)) hx hb dX9_cut_8 rfl ?_
    refine lv_i2b (v := ((Int32.toInt8 (Int64.toInt32 v1)).toInt32)) hx hb dX9_cut_9 rfl ?_
    refine lv_i2l (v := (Int32.toInt64 ((Int32.toInt8 (Int64.toInt32 v1)).toInt32))) hx hb dX9_cut_10 rfl ?_
    obtain rfl := so hf
    exact q_lret B hw hz hc0 hr hlk dX9_cut_11
