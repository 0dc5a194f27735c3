/-! SecondLife$Memo.<init>(I)V -/
def f_X3_init (z : Sh) (h : Hp) (v0 : Nat) (v1 : Int32) : Option (Hp × Sh) :=
  if z.K v0 = 3 then
    gd2 z <|
    (f_J9_max_7cf53 z h 0 v1).bind fun x1 =>
    (nwA z h 15 x1).bind fun (a2, h3, z4) =>
    gd2 z4 <|
    (pR z4 h3 3 v0 0 (some a2)).bind fun h5 =>
    some (h5, z4)
  else none
theorem k_X3_init {z : Sh} {h : Hp} {v0 : Nat} {v1 : Int32} {w : Hp × Sh} (hf : f_X3_init z h v0 v1 = some w) : z.K v0 = 3 := by
  unfold f_X3_init at hf
  exact (if_some hf).1
theorem mo_X3_init {z : Sh} {h : Hp} {v0 : Nat} {v1 : Int32} {h' : Hp} {zE : Sh} (hf : f_X3_init z h v0 v1 = some (h', zE)) : z.sz ≤ zE.sz ∧ z.sl ≤ zE.sl := by
  unfold f_X3_init at hf
  exact (gd2_some (if_some hf).2).1
set_option maxHeartbeats 4000000 in
theorem c_X3_init {l : Launch} {s0 : State} {E : Ev} (G : Gl s0 E) {z : Sh} {h : Hp} {v0 : Nat} {v1 : Int32} {h' : Hp} {zE : Sh} (hf : f_X3_init z h v0 v1 = some (h', zE)) : Ca l s0 E yX3_init cX3_init 2 none 1 24 [.ref v0, .int v1] z zE h h' (none) := by
  refine Ca.of G (by decide +kernel) (Nat.le_of_ble_eq_true rfl) (mo_X3_init hf) ?_
  intro p e s m below meth c ls B hw hM hr hlk hnm0 hl
  have B : Bd p s0 s E m c cX3_init 2 RX3 := B
  have hx := B.1
  have hb := B.2.1
  have hl : lv_has ls 2 [(0, .ref v0), (1, .int v1)] := hl
  have hin : meth.name = "<init>" := hnm0
  unfold f_X3_init at hf
  obtain ⟨_, hf⟩ := if_some hf
  obtain ⟨_, hf⟩ := gd2_some hf
  refine lv_aload_n hx hb dX3_init_0 rfl (lv_at hl 0 rfl) ?_
  refine q_obj B hl.1 tw_2_34 tw_1_29 tw_1_30 (Nat.le_of_ble_eq_true rfl) (Nat.le_of_ble_eq_true rfl) dX3_init_1 ?_
  refine lv_aload_n hx hb dX3_init_4 rfl (lv_at hl 0 rfl) ?_
  refine lv_iconst (v := 0) hx hb dX3_init_5 (by decide) ?_
  refine lv_iload_n hx hb dX3_init_6 rfl (lv_at hl 1 rfl) ?_
  obtain ⟨x1, e, hf⟩ := ob hf
  refine q_callS (As := [.int 0, .int v1]) (rest := [.ref v0]) (st1 := [.int x1, .ref v0]) (c_J9_max_7cf53 G e) B hw hM.hz hM.hc0 my_J9_max_7cf53 mv_J9_max_7cf53 tw_2_35 ⟨Nat.le_of_ble_eq_true rfl, Nat.le_of_ble_eq_true rfl⟩ hM.hcs rfl hl.1 rfl rfl (Nat.le_of_ble_eq_true rfl) dX3_init_7 (fun H locs hw => ?_)
  obtain ⟨⟨a2, h3, z4⟩, e, hf⟩ := ob hf
  obtain ⟨hg, hf⟩ := gd2_some hf
  refine q_newA (atype := .long) (ty := .long) (t0 := 2) e hg B hw hM (by decide) rfl rfl rfl (cfn_15 E _ _) arn_15 tw_2_42 dX3_init_10 (fun H locs hw hM => ?_)
  obtain ⟨h5, e, hf⟩ := ob hf
  refine q_putRF e B hw hin fd_3_0.1 fd_3_0.2.1 fd_3_0.2.2.1 fd_3_0.2.2.2.1 fd_3_0.2.2.2.2 rfl rfl rfl (tyX3_ok 0 (by decide)) (Or.inr ⟨_, rfl⟩) tyX3 tyX3_ok nmX3 tw_2_38 dX3_init_12 (fun H locs hw => ?_)
  obtain ⟨rfl, rfl⟩ := so2 hf
  exact q_vret B hw hM.hz hM.hc0 hr hlk dX3_init_15
/-! SecondLife$Past.<init>()V -/
def f_X4_init_25 (n : Nat)  : Nat → Sh → Hp → Nat → Int32 → Option (Hp × Sh)
  | 0, _, _, _, _ => none
  | i + 1, z, h, v0, v1 =>
    (gR z h 4 v0 0).bind fun a1 =>
    (aL z a1).bind fun x2 =>
    if x2 ≤ v1 then
      some (h, z)
    else
      (gR z h 4 v0 0).bind fun a4 =>
      (nwO z h 5).bind fun (a5, h6, z7) =>
      gd2 z7 <|
      (f_X5_init z7 h6 a5).bind fun (h8, z9) =>
      gd2 z9 <|
      (stR z9 h8 18 5 a4 v1 a5).bind fun h10 =>
      (some (v1 + 1)).bind fun x11 =>
      (f_X4_init_25 n i) z9 h10 v0 x11
def f_X4_init (n : Nat) (z : Sh) (h : Hp) (v0 : Nat) : Option (Hp × Sh) :=
  if z.K v0 = 4 then
    gd2 z <|
    (nwA z h 18 10).bind fun (a1, h2, z3) =>
    gd2 z3 <|
    (pR z3 h2 4 v0 0 (some a1)).bind fun h4 =>
    (pI z3 h4 4 v0 1 0).bind fun h5 =>
    (pI z3 h5 4 v0 2 0).bind fun h6 =>
    f_X4_init_25 n n z3 h6 v0 0
  else none
theorem k_X4_init {n : Nat} {z : Sh} {h : Hp} {v0 : Nat} {w : Hp × Sh} (hf : f_X4_init n z h v0 = some w) : z.K v0 = 4 := by
  unfold f_X4_init at hf
  exact (if_some hf).1
theorem mo_X4_init {n : Nat} {z : Sh} {h : Hp} {v0 : Nat} {h' : Hp} {zE : Sh} (hf : f_X4_init n z h v0 = some (h', zE)) : z.sz ≤ zE.sz ∧ z.sl ≤ zE.sl := by
  unfold f_X4_init at hf
  exact (gd2_some (if_some hf).2).1
set_option maxHeartbeats 4000000 in
theorem w_X4_init_25 {p : Program} {l : Launch} {e : Env} {s : State} {m : MethodId} {args : Array Value} {below : List Frame} {meth : Method} {c : Code} {s0 : State} {E : Ev} {z0 : Sh} {n : Nat} {h' : Hp} {zE : Sh} (G : Gl s0 E) (B : Bd p s0 s E m c cX4_init 2 RX4) (hin : meth.name = "<init>") (hr : meth.sig.returnType = none) (hlk : meth.locks = false) : ∀ (i : Nat), ∀ (z : Sh) (h : Hp) (v0 : Nat) (v1 : Int32) (H : Heap) (locs : List Loc) (ls : Array Slot), Pw s0 s E z h H locs → Mo s0 s z0 z zE → lv_has ls 2 [(0, .ref v0), (1, .int v1)] → f_X4_init_25 n i z h v0 v1 = some (h', zE) → W p l e (rmA 2 44 z0 zE) s m args below meth c H locs (z.sz - z0.sz) (z.sl - z0.sl) (Zt below s0 E zE h' (none) args s (zE.sz - z0.sz) (zE.sl - z0.sl)) (F0 m 25 ls []) := by
  have hx := B.1
  have hb := B.2.1
  intro i
  induction i with
  | zero =>
    intro z h v0 v1 H locs ls hw hM hl hf
    have hf := (f_X4_init_25.eq_1 ..).symm.trans hf
    cases hf
  | succ i ih =>
    intro z h v0 v1 H locs ls hw hM hl hf
    have hf := (f_X4_init_25.eq_2 ..).symm.trans hf
    refine lv_iload_n hx hb dX4_init_25 rfl (lv_at hl 1 rfl) ?_
    refine lv_aload_n hx hb dX4_init_26 rfl (lv_at hl 0 rfl) ?_
    obtain ⟨a1, e, hf⟩ := ob hf
    refine q_getR e B hw fd_4_0.1 fd_4_0.2.1 fd_4_0.2.2.1 fd_4_0.2.2.2.1 fd_4_0.2.2.2.2 rfl tw_1_172 dX4_init_27 ?_
    obtain ⟨x2, e, hf⟩ := ob hf
    refine q_len e B hw dX4_init_30 ?_
    refine lv_icmp_ge (tgt := 53) hx hb dX4_init_31 (by decide) (fun c3 => ?_) (fun c3 => ?_)
    · have hf := (if_pos c3).symm.trans hf
      obtain ⟨rfl, rfl⟩ := so2 hf
      exact q_vret B hw hM.hz hM.hc0 hr hlk dX4_init_53
    · have hf := (if_neg c3).symm.trans hf
      refine lv_aload_n hx hb dX4_init_34 rfl (lv_at hl 0 rfl) ?_
      obtain ⟨a4, e, hf⟩ := ob hf
      refine q_getR e B hw fd_4_0.1 fd_4_0.2.1 fd_4_0.2.2.1 fd_4_0.2.2.2.1 fd_4_0.2.2.2.2 rfl tw_1_172 dX4_init_35 ?_
      refine lv_iload_n hx hb dX4_init_38 rfl (lv_at hl 1 rfl) ?_
      obtain ⟨⟨a5, h6, z7⟩, e, hf⟩ := ob hf
      obtain ⟨hg, hf⟩ := gd2_some hf
      refine q_newO e hg B hw hM (by decide) (ci := 5) rfl rfl tyX5 tyX5_ok dfX5 tw_1_169 tw_1_145 tw_1_4 dX4_init_39 (fun H locs hw hM => ?_)
      refine lv_dup hx hb dX4_init_42 rfl ?_
      obtain ⟨⟨h8, z9⟩, e, hf⟩ := ob hf
      obtain ⟨hg, hf⟩ := gd2_some hf
      refine q_callINA (As := []) (rest := [.ref a5, .int v1, .ref a4]) (c_X5_init G e) (mo_X5_init e) hg B hw hM rfl my_X5_init mv_X5_init tw_1_171 ⟨Nat.le_of_ble_eq_true rfl, Nat.le_of_ble_eq_true rfl⟩ rfl hl.1 rfl (Nat.le_of_ble_eq_true rfl) dX4_init_43 (fun H locs hw hM => ?_)
      obtain ⟨h10, e, hf⟩ := ob hf
      refine q_stR (t0 := 5) e B hw (by decide) (by decide) (by decide) rfl rfl dX4_init_46 (fun H locs hw => ?_)
      obtain ⟨x11, e, hf⟩ := ob hf
      refine lv_iinc (v := x11) (lv' := [(1, .int x11), (0, .ref v0)]) hx hb dX4_init_47 hl (k := 1) rfl (Option.some.inj e) (by decide) rfl (fun ls hl => ?_)
      refine lv_goto (tgt := 25) hx hb dX4_init_50 (by decide) ?_
      exact ih z9 h10 v0 x11 _ _ _ hw hM (lv_sub hl [1, 0] rfl) hf
set_option maxHeartbeats 4000000 in
theorem c_X4_init {l : Launch} {s0 : State} {E : Ev} (G : Gl s0 E) {n : Nat} {z : Sh} {h : Hp} {v0 : Nat} {h' : Hp} {zE : Sh} (hf : f_X4_init n z h v0 = some (h', zE)) : Ca l s0 E yX4_init cX4_init 2 none 2 44 [.ref v0] z zE h h' (none) := by
  refine Ca.of G (by decide +kernel) (Nat.le_of_ble_eq_true rfl) (mo_X4_init hf) ?_
  intro p e s m below meth c ls B hw hM hr hlk hnm0 hl
  have B : Bd p s0 s E m c cX4_init 2 RX4 := B
  have hx := B.1
  have hb := B.2.1
  have hl : lv_has ls 2 [(0, .ref v0)] := hl
  have hin : meth.name = "<init>" := hnm0
  unfold f_X4_init at hf
  obtain ⟨_, hf⟩ := if_some hf
  obtain ⟨_, hf⟩ := gd2_some hf
  refine lv_aload_n hx hb dX4_init_0 rfl (lv_at hl 0 rfl) ?_
  refine q_obj B hl.1 tw_1_168 tw_1_29 tw_1_30 (Nat.le_of_ble_eq_true rfl) (Nat.le_of_ble_eq_true rfl) dX4_init_1 ?_
  refine lv_aload_n hx hb dX4_init_4 rfl (lv_at hl 0 rfl) ?_
  refine lv_bipush (v := 10) hx hb dX4_init_5 (by decide) ?_
  obtain ⟨⟨a1, h2, z3⟩, e, hf⟩ := ob hf
  obtain ⟨hg, hf⟩ := gd2_some hf
  refine q_newQ (t0 := 5) e hg B hw hM (by decide) (by decide) rfl rfl tw_1_169 (va_AO.moved B.2.2.2.2.1.alike (va_AO.of (G.2.1.choose_spec _ tw_1_170))) dX4_init_7 (fun H locs hw hM => ?_)
  obtain ⟨h4, e, hf⟩ := ob hf
  refine q_putRF e B hw hin fd_4_0.1 fd_4_0.2.1 fd_4_0.2.2.1 fd_4_0.2.2.2.1 fd_4_0.2.2.2.2 rfl rfl rfl (tyX4_ok 0 (by decide)) (Or.inr ⟨_, rfl⟩) tyX4 tyX4_ok nmX4 tw_1_172 dX4_init_10 (fun H locs hw => ?_)
  refine lv_aload_n hx hb dX4_init_13 rfl (lv_at hl 0 rfl) ?_
  refine lv_iconst (v := 0) hx hb dX4_init_14 (by decide) ?_
  obtain ⟨h5, e, hf⟩ := ob hf
  refine q_putI e B hw fd_4_1.1 fd_4_1.2.1 fd_4_1.2.2.1 fd_4_1.2.2.2.1 fd_4_1.2.2.2.2 rfl rfl (tyX4_ok 1 (by decide)) tyX4 tyX4_ok nmX4 tw_1_173 dX4_init_15 (fun H locs hw => ?_)
  refine lv_aload_n hx hb dX4_init_18 rfl (lv_at hl 0 rfl) ?_
  refine lv_iconst (v := 0) hx hb dX4_init_19 (by decide) ?_
  obtain ⟨h6, e, hf⟩ := ob hf
  refine q_putI e B hw fd_4_2.1 fd_4_2.2.1 fd_4_2.2.2.1 fd_4_2.2.2.2.1 fd_4_2.2.2.2.2 rfl rfl (tyX4_ok 2 (by decide)) tyX4 tyX4_ok nmX4 tw_1_174 dX4_init_20 (fun H locs hw => ?_)
  refine lv_iconst (v := 0) hx hb dX4_init_23 (by decide) ?_
  refine lv_istore_n (lv' := [(1, .int 0), (0, .ref v0)]) hx hb dX4_init_24 rfl hl (by decide) rfl (fun ls hl => ?_)
  exact w_X4_init_25 G B hin hr hlk  n z3 h6 v0 0 _ _ _ hw hM (lv_sub hl [1, 0] rfl) hf
/-! SecondLife$Past.keep(LSecondLife$People;)V -/
def f_X4_keep (z : Sh) (h : Hp) (v0 : Nat) (v1 : Nat) : Option (Hp) :=
  if z.K v0 = 4 then
    (gI z h 4 v0 1).bind fun x1 =>
    if x1 < 0 then
      some h
    else
      (gI z h 4 v0 1).bind fun x3 =>
      (gR z h 4 v0 0).bind fun a4 =>
      (aL z a4).bind fun x5 =>
      if x3 < x5 then
        (gR z h 4 v0 0).bind fun a7 =>
        (gI z h 4 v0 1).bind fun x8 =>
        (ldR z h 18 a7 x8).bind fun a9 =>
        (f_X5_copy z h a9 v1).bind fun h10 =>
        (gI z h10 4 v0 1).bind fun x11 =>
        (rmI (x11 + 1) 10).bind fun x12 =>
        (pI z h10 4 v0 1 x12).bind fun h13 =>
        (gI z h13 4 v0 2).bind fun x14 =>
        (f_J9_min_7cf53 z h13 (x14 + 1) 10).bind fun x15 =>
        (pI z h13 4 v0 2 x15).bind fun h16 =>
        some h16
      else
        some h
  else none
theorem k_X4_keep {z : Sh} {h : Hp} {v0 : Nat} {v1 : Nat} {w : Hp} (hf : f_X4_keep z h v0 v1 = some w) : z.K v0 = 4 := by
  unfold f_X4_keep at hf
  exact (if_some hf).1
set_option maxHeartbeats 4000000 in
theorem c_X4_keep {l : Launch} {s0 : State} {E : Ev} (G : Gl s0 E) {z : Sh} {h : Hp} {v0 : Nat} {v1 : Nat} {h' : Hp} (hf : f_X4_keep z h v0 v1 = some h') : Ct l s0 E yX4_keep cX4_keep 3 none 2 81 [.ref v0, .ref v1] z h h' (none) := by
  refine Ct.of G (by decide) (Nat.le_of_ble_eq_true rfl) ?_
  intro p e s m below meth c ls B hw hz hc0 hr hlk hl
  have B : Bd p s0 s E m c cX4_keep 3 RX4 := B
  have hx := B.1
  have hb := B.2.1
  have hl : lv_has ls 3 [(0, .ref v0), (1, .ref v1)] := hl
  unfold f_X4_keep at hf
  obtain ⟨_, hf⟩ := if_some hf
  refine lv_aload_n hx hb dX4_keep_0 rfl (lv_at hl 0 rfl) ?_
  obtain ⟨x1, e, hf⟩ := ob hf
  refine q_getI e B hw fd_4_1.1 fd_4_1.2.1 fd_4_1.2.2.1 fd_4_1.2.2.2.1 fd_4_1.2.2.2.2 rfl tw_1_173 dX4_keep_1 ?_
  refine lv_if_lt (tgt := 19) hx hb dX4_keep_4 (by decide) (fun c2 => ?_) (fun c2 => ?_)
  · have hf := (if_pos c2).symm.trans hf
    obtain rfl := so hf
    exact q_vret B hw hz hc0 hr hlk dX4_keep_19
  · have hf := (if_neg c2).symm.trans hf
    refine lv_aload_n hx hb dX4_keep_7 rfl (lv_at hl 0 rfl) ?_
    obtain ⟨x3, e, hf⟩ := ob hf
    refine q_getI e B hw fd_4_1.1 fd_4_1.2.1 fd_4_1.2.2.1 fd_4_1.2.2.2.1 fd_4_1.2.2.2.2 rfl tw_1_173 dX4_keep_8 ?_
    refine lv_aload_n hx hb dX4_keep_11 rfl (lv_at hl 0 rfl) ?_
    obtain ⟨a4, e, hf⟩ := ob hf
    refine q_getR e B hw fd_4_0.1 fd_4_0.2.1 fd_4_0.2.2.1 fd_4_0.2.2.2.1 fd_4_0.2.2.2.2 rfl tw_1_172 dX4_keep_12 ?_
    obtain ⟨x5, e, hf⟩ := ob hf
    refine q_len e B hw dX4_keep_15 ?_
    refine lv_icmp_lt (tgt := 20) hx hb dX4_keep_16 (by decide) (fun c6 => ?_) (fun c6 => ?_)
    · have hf := (if_pos c6).symm.trans hf
      refine lv_aload_n hx hb dX4_keep_20 rfl (lv_at hl 0 rfl) ?_
      obtain ⟨a7, e, hf⟩ := ob hf
      refine q_getR e B hw fd_4_0.1 fd_4_0.2.1 fd_4_0.2.2.1 fd_4_0.2.2.2.1 fd_4_0.2.2.2.2 rfl tw_1_172 dX4_keep_21 ?_
      refine lv_aload_n hx hb dX4_keep_24 rfl (lv_at hl 0 rfl) ?_
      obtain ⟨x8, e, hf⟩ := ob hf
      refine q_getI e B hw fd_4_1.1 fd_4_1.2.1 fd_4_1.2.2.1 fd_4_1.2.2.2.1 fd_4_1.2.2.2.2 rfl tw_1_173 dX4_keep_25 ?_
      obtain ⟨a9, e, hf⟩ := ob hf
      refine q_ldR (t0 := 5) e B hw (by decide) (by decide) rfl dX4_keep_28 ?_
      refine lv_astore_n (lv' := [(2, .ref a9), (0, .ref v0), (1, .ref v1)]) hx hb dX4_keep_29 rfl hl (by decide) rfl (fun ls hl => ?_)
      refine lv_aload_n hx hb dX4_keep_30 rfl (lv_at hl 0 rfl) ?_
      refine lv_ifnull hx hb dX4_keep_31 ?_
      refine lv_aload_n hx hb dX4_keep_34 rfl (lv_at hl 0 rfl) ?_
      refine lv_aload_n hx hb dX4_keep_35 rfl (lv_at hl 2 rfl) ?_
      obtain ⟨h10, e, hf⟩ := ob hf
      refine q_callVN (As := [.ref v1]) (rest := []) (st1 := []) (c_X5_copy G e) B hw hz hc0 (k_X5_copy e) (by decide) (ci := 5) rfl rfl my_X5_copy mv_X5_copy tw_4_44 ⟨Nat.le_of_ble_eq_true rfl, Nat.le_of_ble_eq_true rfl⟩ ⟨Nat.zero_le _, Nat.zero_le _⟩ rfl hl.1 rfl rfl (Nat.le_of_ble_eq_true rfl) dX4_keep_36 (fun H locs hw => ?_)
      refine lv_aload_n hx hb dX4_keep_39 rfl (lv_at hl 1 rfl) ?_
      refine lv_aload_n hx hb dX4_keep_40 rfl (lv_at hl 1 rfl) ?_
      obtain ⟨x11, e, hf⟩ := ob hf
      refine q_getI e B hw fd_4_1.1 fd_4_1.2.1 fd_4_1.2.2.1 fd_4_1.2.2.2.1 fd_4_1.2.2.2.2 rfl tw_1_173 dX4_keep_41 ?_
      refine lv_iconst (v := 1) hx hb dX4_keep_44 (by decide) ?_
      refine lv_iadd hx hb dX4_keep_45 ?_
      refine lv_bipush (v := 10) hx hb dX4_keep_46 (by decide) ?_
      obtain ⟨x12, e, hf⟩ := ob hf
      refine q_irem e hx hb dX4_keep_48 ?_
      obtain ⟨h13, e, hf⟩ := ob hf
      refine q_putI e B hw fd_4_1.1 fd_4_1.2.1 fd_4_1.2.2.1 fd_4_1.2.2.2.1 fd_4_1.2.2.2.2 rfl rfl (tyX4_ok 1 (by decide)) tyX4 tyX4_ok nmX4 tw_1_173 dX4_keep_49 (fun H locs hw => ?_)
      refine lv_aload_n hx hb dX4_keep_52 rfl (lv_at hl 1 rfl) ?_
      refine lv_aload_n hx hb dX4_keep_53 rfl (lv_at hl 1 rfl) ?_
      obtain ⟨x14, e, hf⟩ := ob hf
      refine q_getI e B hw fd_4_2.1 fd_4_2.2.1 fd_4_2.2.2.1 fd_4_2.2.2.2.1 fd_4_2.2.2.2.2 rfl tw_1_174 dX4_keep_54 ?_
      refine lv_iconst (v := 1) hx hb dX4_keep_57 (by decide) ?_
      refine lv_iadd hx hb dX4_keep_58 ?_
      refine lv_bipush (v := 10) hx hb dX4_keep_59 (by decide) ?_
      obtain ⟨x15, e, hf⟩ := ob hf
      refine q_callS (As := [.int (x14 + 1), .int 10]) (rest := [.ref v0]) (st1 := [.int x15, .ref v0]) (c_J9_min_7cf53 G e) B hw hz hc0 my_J9_min_7cf53 mv_J9_min_7cf53 tw_4_45 ⟨Nat.le_of_ble_eq_true rfl, Nat.le_of_ble_eq_true rfl⟩ ⟨Nat.zero_le _, Nat.zero_le _⟩ rfl hl.1 rfl rfl (Nat.le_of_ble_eq_true rfl) dX4_keep_61 (fun H locs hw => ?_)
      obtain ⟨h16, e, hf⟩ := ob hf
      refine q_putI e B hw fd_4_2.1 fd_4_2.2.1 fd_4_2.2.2.1 fd_4_2.2.2.2.1 fd_4_2.2.2.2.2 rfl rfl (tyX4_ok 2 (by decide)) tyX4 tyX4_ok nmX4 tw_1_174 dX4_keep_64 (fun H locs hw => ?_)
      obtain rfl := so hf
      exact q_vret B hw hz hc0 hr hlk dX4_keep_67
    · have hf := (if_neg c6).symm.trans hf
      obtain rfl := so hf
      exact q_vret B hw hz hc0 hr hlk dX4_keep_19
/-! SecondLife$Past.bringBack(ILSecondLife$People;)Z -/
def f_X4_bringBack_46 (z : Sh) (h : Hp) (v0 : Nat) (v1 : Int32) (v2 : Nat) (v3 : Int32) (u0 : Option Nat) : Option (Int32 × Hp) :=
  (match u0 with
  | none =>
    some (0, h)
  | some b0 =>
    (f_X5_copy z h v2 b0).bind fun h1 =>
    (pI z h1 4 v0 1 v3).bind fun h2 =>
    (gI z h2 4 v0 2).bind fun x3 =>
    (pI z h2 4 v0 2 (x3 - v1)).bind fun h4 =>
    some (1, h4))
def f_X4_bringBack (z : Sh) (h : Hp) (v0 : Nat) (v1 : Int32) (v2 : Nat) : Option (Int32 × Hp) :=
  if z.K v0 = 4 then
    if v1 < 1 then
      some (0, h)
    else
      (gI z h 4 v0 2).bind fun x2 =>
      if v1 ≤ x2 then
        (gI z h 4 v0 1).bind fun x4 =>
        (f_J9_floorMod_7cf53 z h (x4 - v1) 10).bind fun x5 =>
        (gR z h 4 v0 0).bind fun a6 =>
        (aL z a6).bind fun x7 =>
        if x7 ≤ x5 then
          f_X4_bringBack_46 z h v0 v1 v2 x5 none
        else
          (gR z h 4 v0 0).bind fun a9 =>
          (ldR z h 18 a9 x5).bind fun a10 =>
          f_X4_bringBack_46 z h v0 v1 v2 x5 (some a10)
      else
        some (0, h)
  else none
theorem k_X4_bringBack {z : Sh} {h : Hp} {v0 : Nat} {v1 : Int32} {v2 : Nat} {w : Int32 × Hp} (hf : f_X4_bringBack z h v0 v1 v2 = some w) : z.K v0 = 4 := by
  unfold f_X4_bringBack at hf
  exact (if_some hf).1
set_option maxHeartbeats 4000000 in
theorem w_X4_bringBack_46 {p : Program} {l : Launch} {e : Env} {s : State} {m : MethodId} {args : Array Value} {below : List Frame} {meth : Method} {c : Code} {s0 : State} {E : Ev} {z : Sh} {r : Int32} {h' : Hp} (G : Gl s0 E) (B : Bd p s0 s E m c cX4_bringBack 5 RX4) (hz : s0.heap.size ≤ z.sz) (hc0 : s.heap.size + 0 = z.sz) (hr : meth.sig.returnType = (some .boolean)) (hlk : meth.locks = false) : ∀ (h : Hp) (v0 : Nat) (v1 : Int32) (v2 : Nat) (v3 : Int32) (u0 : Option Nat) (H : Heap) (locs : List Loc) (ls : Array Slot), Pw s0 s E z h H locs → lv_has ls 5 [(0, .ref v0), (1, .int v1), (2, .ref v2), (3, .int v3)] → f_X4_bringBack_46 z h v0 v1 v2 v3 u0 = some (r, h') → W p l e (rmO 2 81) s m args below meth c H locs 0 0 (Zt below s0 E z h' (some (.int r)) args s 0 0) (F0 m 46 ls [va_rf u0]) := by
  have hx := B.1
  have hb := B.2.1
  intro h v0 v1 v2 v3 u0 H locs ls hw hl hf
  unfold f_X4_bringBack_46 at hf
  rcases u0 with _ | b0
  · refine lv_astoreN (lv' := [(4, .null), (0, .ref v0), (1, .int v1), (2, .ref v2), (3, .int v3)]) hx hb dX4_bringBack_46 hl (by decide) rfl (fun ls hl => ?_)
    refine lv_aloadN hx hb dX4_bringBack_48 (lv_at hl 0 rfl) ?_
    refine lv_ifnonnullN hx hb dX4_bringBack_50 ?_
    refine lv_iconst (v := 0) hx hb dX4_bringBack_53 (by decide) ?_
    obtain ⟨rfl, rfl⟩ := so2 hf
    exact q_zret (Or.inl rfl) B hw hz hc0 hr hlk dX4_bringBack_54
  · refine lv_astore (lv' := [(4, .ref b0), (0, .ref v0), (1, .int v1), (2, .ref v2), (3, .int v3)]) hx hb dX4_bringBack_46 hl (by decide) rfl (fun ls hl => ?_)
    refine lv_aload hx hb dX4_bringBack_48 (lv_at hl 0 rfl) ?_
    refine lv_ifnonnull (tgt := 55) hx hb dX4_bringBack_50 (by decide) ?_
    refine lv_aload_n hx hb dX4_bringBack_55 rfl (lv_at hl 3 rfl) ?_
    refine lv_aload hx hb dX4_bringBack_56 (lv_at hl 0 rfl) ?_
    obtain ⟨h1, e, hf⟩ := ob hf
    refine q_callVN (As := [.ref b0]) (rest := []) (st1 := []) (c_X5_copy G e) B hw hz hc0 (k_X5_copy e) (by decide) (ci := 5) rfl rfl my_X5_copy mv_X5_copy tw_4_44 ⟨Nat.le_of_ble_eq_true rfl, Nat.le_of_ble_eq_true rfl⟩ ⟨Nat.zero_le _, Nat.zero_le _⟩ rfl hl.1 rfl rfl (Nat.le_of_ble_eq_true rfl) dX4_bringBack_58 (fun H locs hw => ?_)
    refine lv_aload_n hx hb dX4_bringBack_61 rfl (lv_at hl 1 rfl) ?_
    refine lv_iload_n hx hb dX4_bringBack_62 rfl (lv_at hl 4 rfl) ?_
    obtain ⟨h2, e, hf⟩ := ob hf
    refine q_putI e B hw fd_4_1.1 fd_4_1.2.1 fd_4_1.2.2.1 fd_4_1.2.2.2.1 fd_4_1.2.2.2.2 rfl rfl (tyX4_ok 1 (by decide)) tyX4 tyX4_ok nmX4 tw_1_173 dX4_bringBack_63 (fun H locs hw => ?_)
    refine lv_aload_n hx hb dX4_bringBack_66 rfl (lv_at hl 1 rfl) ?_
    refine lv_dup hx hb dX4_bringBack_67 rfl ?_
    obtain ⟨x3, e, hf⟩ := ob hf
    refine q_getI e B hw fd_4_2.1 fd_4_2.2.1 fd_4_2.2.2.1 fd_4_2.2.2.2.1 fd_4_2.2.2.2.2 rfl tw_1_174 dX4_bringBack_68 ?_
    refine lv_iload_n hx hb dX4_bringBack_71 rfl (lv_at hl 2 rfl) ?_
    refine lv_isub hx hb dX4_bringBack_72 ?_
    obtain ⟨h4, e, hf⟩ := ob hf
    refine q_putI e B hw fd_4_2.1 fd_4_2.2.1 fd_4_2.2.2.1 fd_4_2.2.2.2.1 fd_4_2.2.2.2.2 rfl rfl (tyX4_ok 2 (by decide)) tyX4 tyX4_ok nmX4 tw_1_174 dX4_bringBack_73 (fun H locs hw => ?_)
    refine lv_iconst (v := 1) hx hb dX4_bringBack_76 (by decide) ?_
    obtain ⟨rfl, rfl⟩ := so2 hf
    exact q_zret (Or.inr rfl) B hw hz hc0 hr hlk dX4_bringBack_77
set_option maxHeartbeats 4000000 in
theorem c_X4_bringBack {l : Launch} {s0 : State} {E : Ev} (G : Gl s0 E) {z : Sh} {h : Hp} {v0 : Nat} {v1 : Int32} {v2 : Nat} {r : Int32} {h' : Hp} (hf : f_X4_bringBack z h v0 v1 v2 = some (r, h')) : Ct l s0 E yX4_bringBack cX4_bringBack 5 (some .boolean) 2 81 [.ref v0, .int v1, .ref v2] z h h' (some (.int r)) := by
  refine Ct.of G (by decide) (Nat.le_of_ble_eq_true rfl) ?_
  intro p e s m below meth c ls B hw hz hc0 hr hlk hl
  have B : Bd p s0 s E m c cX4_bringBack 5 RX4 := B
  have hx := B.1
  have hb := B.2.1
  have hl : lv_has ls 5 [(0, .ref v0), (1, .int v1), (2, .ref v2)] := hl
  unfold f_X4_bringBack at hf
  obtain ⟨_, hf⟩ := if_some hf
  refine lv_iload_n hx hb dX4_bringBack_0 rfl (lv_at hl 1 rfl) ?_
  refine lv_iconst (v := 1) hx hb dX4_bringBack_1 (by decide) ?_
  refine lv_icmp_lt (tgt := 13) hx hb dX4_bringBack_2 (by decide) (fun c1 => ?_) (fun c1 => ?_)
  · have hf := (if_pos c1).symm.trans hf
    refine lv_iconst (v := 0) hx hb dX4_bringBack_13 (by decide) ?_
    obtain ⟨rfl, rfl⟩ := so2 hf
    exact q_zret (Or.inl rfl) B hw hz hc0 hr hlk dX4_bringBack_14
  · have hf := (if_neg c1).symm.trans hf
    refine lv_iload_n hx hb dX4_bringBack_5 rfl (lv_at hl 1 rfl) ?_
    refine lv_aload_n hx hb dX4_bringBack_6 rfl (lv_at hl 0 rfl) ?_
    obtain ⟨x2, e, hf⟩ := ob hf
    refine q_getI e B hw fd_4_2.1 fd_4_2.2.1 fd_4_2.2.2.1 fd_4_2.2.2.2.1 fd_4_2.2.2.2.2 rfl tw_1_174 dX4_bringBack_7 ?_
    refine lv_icmp_le (tgt := 15) hx hb dX4_bringBack_10 (by decide) (fun c3 => ?_) (fun c3 => ?_)
    · have hf := (if_pos c3).symm.trans hf
      refine lv_aload_n hx hb dX4_bringBack_15 rfl (lv_at hl 0 rfl) ?_
      obtain ⟨x4, e, hf⟩ := ob hf
      refine q_getI e B hw fd_4_1.1 fd_4_1.2.1 fd_4_1.2.2.1 fd_4_1.2.2.2.1 fd_4_1.2.2.2.2 rfl tw_1_173 dX4_bringBack_16 ?_
      refine lv_iload_n hx hb dX4_bringBack_19 rfl (lv_at hl 1 rfl) ?_
      refine lv_isub hx hb dX4_bringBack_20 ?_
      refine lv_bipush (v := 10) hx hb dX4_bringBack_21 (by decide) ?_
      obtain ⟨x5, e, hf⟩ := ob hf
      refine q_callS (As := [.int (x4 - v1), .int 10]) (rest := []) (st1 := [.int x5]) (c_J9_floorMod_7cf53 G e) B hw hz hc0 my_J9_floorMod_7cf53 mv_J9_floorMod_7cf53 tw_4_84 ⟨Nat.le_of_ble_eq_true rfl, Nat.le_of_ble_eq_true rfl⟩ ⟨Nat.zero_le _, Nat.zero_le _⟩ rfl hl.1 rfl rfl (Nat.le_of_ble_eq_true rfl) dX4_bringBack_23 (fun H locs hw => ?_)
      refine lv_istore_n (lv' := [(3, .int x5), (0, .ref v0), (1, .int v1), (2, .ref v2)]) hx hb dX4_bringBack_26 rfl hl (by decide) rfl (fun ls hl => ?_)
      refine lv_iload_n hx hb dX4_bringBack_27 rfl (lv_at hl 0 rfl) ?_
      refine lv_aload_n hx hb dX4_bringBack_28 rfl (lv_at hl 1 rfl) ?_
      obtain ⟨a6, e, hf⟩ := ob hf
      refine q_getR e B hw fd_4_0.1 fd_4_0.2.1 fd_4_0.2.2.1 fd_4_0.2.2.2.1 fd_4_0.2.2.2.2 rfl tw_1_172 dX4_bringBack_29 ?_
      obtain ⟨x7, e, hf⟩ := ob hf
      refine q_len e B hw dX4_bringBack_32 ?_
      refine lv_icmp_ge (tgt := 45) hx hb dX4_bringBack_33 (by decide) (fun c8 => ?_) (fun c8 => ?_)
      · have hf := (if_pos c8).symm.trans hf
        refine lv_null hx hb dX4_bringBack_45 ?_
        exact w_X4_bringBack_46 G B hz hc0 hr hlk  h v0 v1 v2 x5 none _ _ _ hw (lv_sub hl [1, 2, 3, 0] rfl) hf
      · have hf := (if_neg c8).symm.trans hf
        refine lv_aload_n hx hb dX4_bringBack_36 rfl (lv_at hl 1 rfl) ?_
        obtain ⟨a9, e, hf⟩ := ob hf
        refine q_getR e B hw fd_4_0.1 fd_4_0.2.1 fd_4_0.2.2.1 fd_4_0.2.2.2.1 fd_4_0.2.2.2.2 rfl tw_1_172 dX4_bringBack_37 ?_
        refine lv_iload_n hx hb dX4_bringBack_40 rfl (lv_at hl 0 rfl) ?_
        obtain ⟨a10, e, hf⟩ := ob hf
        refine q_ldR (t0 := 5) e B hw (by decide) (by decide) rfl dX4_bringBack_41 ?_
        refine lv_goto (tgt := 46) hx hb dX4_bringBack_42 (by decide) ?_
        exact w_X4_bringBack_46 G B hz hc0 hr hlk  h v0 v1 v2 x5 (some a10) _ _ _ hw (lv_sub hl [1, 2, 3, 0] rfl) hf
    · have hf := (if_neg c3).symm.trans hf
      refine lv_iconst (v := 0) hx hb dX4_bringBack_13 (by decide) ?_
      obtain ⟨rfl, rfl⟩ := so2 hf
      exact q_zret (Or.inl rfl) B hw hz hc0 hr hlk dX4_bringBack_14
/-! SecondLife$People.settle(LSecondLife$Town;)V -/
def f_X5_settle_26 (n : Nat) (z : Sh) : Nat → Hp → Nat → Nat → Int32 → Option (Hp)
  | 0, _, _, _, _ => none
  | i + 1, h, v0, v1, v2 =>
    (gI z h 5 v0 1).bind fun x1 =>
    if x1 ≤ v2 then
      some h
    else
      (f_X5_put z h v0 v2 1 1).bind fun h3 =>
      (f_X5_put z h3 v0 v2 3 9).bind fun h4 =>
      (f_X8_talentOf z h4 v1 v2).bind fun x5 =>
      (f_X5_put z h4 v0 v2 6 x5).bind fun h6 =>
      (f_X8_fearOf z h6 v1 v2).bind fun x7 =>
      (f_X5_put z h6 v0 v2 7 x7).bind fun h8 =>
      (some (v2 + 1)).bind fun x9 =>
      (f_X5_settle_26 n z i) h8 v0 v1 x9
def f_X5_settle (n : Nat) (z : Sh) (h : Hp) (v0 : Nat) (v1 : Nat) : Option (Hp) :=
  if z.K v0 = 5 then
    (gR z h 5 v0 0).bind fun a1 =>
    (f_J7_fill_53178 n z h a1 0).bind fun h2 =>
    (gI z h2 8 v1 2).bind fun x3 =>
    (pI z h2 5 v0 1 x3).bind fun h4 =>
    (gI z h4 8 v1 3).bind fun x5 =>
    (pI z h4 5 v0 2 x5).bind fun h6 =>
    f_X5_settle_26 n z n h6 v0 v1 0
  else none
theorem k_X5_settle {n : Nat} {z : Sh} {h : Hp} {v0 : Nat} {v1 : Nat} {w : Hp} (hf : f_X5_settle n z h v0 v1 = some w) : z.K v0 = 5 := by
  unfold f_X5_settle at hf
  exact (if_some hf).1
set_option maxHeartbeats 4000000 in
theorem w_X5_settle_26 {p : Program} {l : Launch} {e : Env} {s : State} {m : MethodId} {args : Array Value} {below : List Frame} {meth : Method} {c : Code} {s0 : State} {E : Ev} {z : Sh} {n : Nat} {h' : Hp} (G : Gl s0 E) (B : Bd p s0 s E m c cX5_settle 3 RX5) (hz : s0.heap.size ≤ z.sz) (hc0 : s.heap.size + 0 = z.sz) (hr : meth.sig.returnType = none) (hlk : meth.locks = false) : ∀ (i : Nat), ∀ (h : Hp) (v0 : Nat) (v1 : Nat) (v2 : Int32) (H : Heap) (locs : List Loc) (ls : Array Slot), Pw s0 s E z h H locs → lv_has ls 3 [(0, .ref v0), (1, .ref v1), (2, .int v2)] → f_X5_settle_26 n z i h v0 v1 v2 = some h' → W p l e (rmO 1 24) s m args below meth c H locs 0 0 (Zt below s0 E z h' (none) args s 0 0) (F0 m 26 ls []) := by
  have hx := B.1
  have hb := B.2.1
  intro i
  induction i with
  | zero =>
    intro h v0 v1 v2 H locs ls hw hl hf
    have hf := (f_X5_settle_26.eq_1 ..).symm.trans hf
    cases hf
  | succ i ih =>
    intro h v0 v1 v2 H locs ls hw hl hf
    have hf := (f_X5_settle_26.eq_2 ..).symm.trans hf
    refine lv_iload_n hx hb dX5_settle_26 rfl (lv_at hl 2 rfl) ?_
    refine lv_aload_n hx hb dX5_settle_27 rfl (lv_at hl 0 rfl) ?_
    obtain ⟨x1, e, hf⟩ := ob hf
    refine q_getI e B hw fd_5_1.1 fd_5_1.2.1 fd_5_1.2.2.1 fd_5_1.2.2.2.1 fd_5_1.2.2.2.2 rfl tw_1_151 dX5_settle_28 ?_
    refine lv_icmp_ge (tgt := 79) hx hb dX5_settle_31 (by decide) (fun c2 => ?_) (fun c2 => ?_)
    · have hf := (if_pos c2).symm.trans hf
      obtain rfl := so hf
      exact q_vret B hw hz hc0 hr hlk dX5_settle_79
    · have hf := (if_neg c2).symm.trans hf
      refine lv_aload_n hx hb dX5_settle_34 rfl (lv_at hl 0 rfl) ?_
      refine lv_iload_n hx hb dX5_settle_35 rfl (lv_at hl 2 rfl) ?_
      refine lv_iconst (v := 1) hx hb dX5_settle_36 (by decide) ?_
      refine lv_iconst (v := 1) hx hb dX5_settle_37 (by decide) ?_
      obtain ⟨h3, e, hf⟩ := ob hf
      refine q_callV (As := [.int v2, .int 1, .int 1]) (rest := []) (st1 := []) (c_X5_put G e) B hw hz hc0 (k_X5_put e) (by decide) (ci := 5) rfl rfl my_X5_put mv_X5_put tw_3_186 ⟨Nat.le_of_ble_eq_true rfl, Nat.le_of_ble_eq_true rfl⟩ ⟨Nat.zero_le _, Nat.zero_le _⟩ rfl hl.1 rfl rfl (Nat.le_of_ble_eq_true rfl) dX5_settle_38 (fun H locs hw => ?_)
      refine lv_aload_n hx hb dX5_settle_41 rfl (lv_at hl 0 rfl) ?_
      refine lv_iload_n hx hb dX5_settle_42 rfl (lv_at hl 2 rfl) ?_
      refine lv_iconst (v := 3) hx hb dX5_settle_43 (by decide) ?_
      refine lv_bipush (v := 9) hx hb dX5_settle_44 (by decide) ?_
      obtain ⟨h4, e, hf⟩ := ob hf
      refine q_callV (As := [.int v2, .int 3, .int 9]) (rest := []) (st1 := []) (c_X5_put G e) B hw hz hc0 (k_X5_put e) (by decide) (ci := 5) rfl rfl my_X5_put mv_X5_put tw_3_186 ⟨Nat.le_of_ble_eq_true rfl, Nat.le_of_ble_eq_true rfl⟩ ⟨Nat.zero_le _, Nat.zero_le _⟩ rfl hl.1 rfl rfl (Nat.le_of_ble_eq_true rfl) dX5_settle_46 (fun H locs hw => ?_)
      refine lv_aload_n hx hb dX5_settle_49 rfl (lv_at hl 0 rfl) ?_
      refine lv_iload_n hx hb dX5_settle_50 rfl (lv_at hl 2 rfl) ?_
      refine lv_bipush (v := 6) hx hb dX5_settle_51 (by decide) ?_
      refine lv_aload_n hx hb dX5_settle_53 rfl (lv_at hl 1 rfl) ?_
      refine lv_iload_n hx hb dX5_settle_54 rfl (lv_at hl 2 rfl) ?_
      obtain ⟨x5, e, hf⟩ := ob hf
      refine q_callVN (As := [.int v2]) (rest := [.int 6, .int v2, .ref v0]) (st1 := [.int x5, .int 6, .int v2, .ref v0]) (c_X8_talentOf G e) B hw hz hc0 (k_X8_talentOf e) (by decide) (ci := 8) rfl rfl my_X8_talentOf mv_X8_talentOf tw_3_190 ⟨Nat.le_of_ble_eq_true rfl, Nat.le_of_ble_eq_true rfl⟩ ⟨Nat.zero_le _, Nat.zero_le _⟩ rfl hl.1 rfl rfl (Nat.le_of_ble_eq_true rfl) dX5_settle_55 (fun H locs hw => ?_)
      obtain ⟨h6, e, hf⟩ := ob hf
      refine q_callV (As := [.int v2, .int 6, .int x5]) (rest := []) (st1 := []) (c_X5_put G e) B hw hz hc0 (k_X5_put e) (by decide) (ci := 5) rfl rfl my_X5_put mv_X5_put tw_3_186 ⟨Nat.le_of_ble_eq_true rfl, Nat.le_of_ble_eq_true rfl⟩ ⟨Nat.zero_le _, Nat.zero_le _⟩ rfl hl.1 rfl rfl (Nat.le_of_ble_eq_true rfl) dX5_settle_58 (fun H locs hw => ?_)
      refine lv_aload_n hx hb dX5_settle_61 rfl (lv_at hl 0 rfl) ?_
      refine lv_iload_n hx hb dX5_settle_62 rfl (lv_at hl 2 rfl) ?_
      refine lv_bipush (v := 7) hx hb dX5_settle_63 (by decide) ?_
      refine lv_aload_n hx hb dX5_settle_65 rfl (lv_at hl 1 rfl) ?_
      refine lv_iload_n hx hb dX5_settle_66 rfl (lv_at hl 2 rfl) ?_
      obtain ⟨x7, e, hf⟩ := ob hf
      refine q_callVN (As := [.int v2]) (rest := [.int 7, .int v2, .ref v0]) (st1 := [.int x7, .int 7, .int v2, .ref v0]) (c_X8_fearOf G e) B hw hz hc0 (k_X8_fearOf e) (by decide) (ci := 8) rfl rfl my_X8_fearOf mv_X8_fearOf tw_3_194 ⟨Nat.le_of_ble_eq_true rfl, Nat.le_of_ble_eq_true rfl⟩ ⟨Nat.zero_le _, Nat.zero_le _⟩ rfl hl.1 rfl rfl (Nat.le_of_ble_eq_true rfl) dX5_settle_67 (fun H locs hw => ?_)
      obtain ⟨h8, e, hf⟩ := ob hf
      refine q_callV (As := [.int v2, .int 7, .int x7]) (rest := []) (st1 := []) (c_X5_put G e) B hw hz hc0 (k_X5_put e) (by decide) (ci := 5) rfl rfl my_X5_put mv_X5_put tw_3_186 ⟨Nat.le_of_ble_eq_true rfl, Nat.le_of_ble_eq_true rfl⟩ ⟨Nat.zero_le _, Nat.zero_le _⟩ rfl hl.1 rfl rfl (Nat.le_of_ble_eq_true rfl) dX5_settle_70 (fun H locs hw => ?_)
      obtain ⟨x9, e, hf⟩ := ob hf
      refine lv_iinc (v := x9) (lv' := [(2, .int x9), (0, .ref v0), (1, .ref v1)]) hx hb dX5_settle_73 hl (k := 2) rfl (Option.some.inj e) (by decide) rfl (fun ls hl => ?_)
      refine lv_goto (tgt := 26) hx hb dX5_settle_76 (by decide) ?_
      exact ih h8 v0 v1 x9 _ _ _ hw (lv_sub hl [1, 2, 0] rfl) hf
set_option maxHeartbeats 4000000 in
theorem c_X5_settle {l : Launch} {s0 : State} {E : Ev} (G : Gl s0 E) {n : Nat} {z : Sh} {h : Hp} {v0 : Nat} {v1 : Nat} {h' : Hp} (hf : f_X5_settle n z h v0 v1 = some h') : Ct l s0 E yX5_settle cX5_settle 3 none 1 24 [.ref v0, .ref v1] z h h' (none) := by
  refine Ct.of G (by decide) (Nat.le_of_ble_eq_true rfl) ?_
  intro p e s m below meth c ls B hw hz hc0 hr hlk hl
  have B : Bd p s0 s E m c cX5_settle 3 RX5 := B
  have hx := B.1
  have hb := B.2.1
  have hl : lv_has ls 3 [(0, .ref v0), (1, .ref v1)] := hl
  unfold f_X5_settle at hf
  obtain ⟨_, hf⟩ := if_some hf
  refine lv_aload_n hx hb dX5_settle_0 rfl (lv_at hl 0 rfl) ?_
  obtain ⟨a1, e, hf⟩ := ob hf
  refine q_getR e B hw fd_5_0.1 fd_5_0.2.1 fd_5_0.2.2.1 fd_5_0.2.2.2.1 fd_5_0.2.2.2.2 rfl tw_1_150 dX5_settle_1 ?_
  refine lv_iconst (v := 0) hx hb dX5_settle_4 (by decide) ?_
  obtain ⟨h2, e, hf⟩ := ob hf
  refine q_callS (As := [.ref a1, .int 0]) (rest := []) (st1 := []) (c_J7_fill_53178 G e) B hw hz hc0 my_J7_fill_53178 mv_J7_fill_53178 tw_3_183 ⟨Nat.le_of_ble_eq_true rfl, Nat.le_of_ble_eq_true rfl⟩ ⟨Nat.zero_le _, Nat.zero_le _⟩ rfl hl.1 rfl rfl (Nat.le_of_ble_eq_true rfl) dX5_settle_5 (fun H locs hw => ?_)
  refine lv_aload_n hx hb dX5_settle_8 rfl (lv_at hl 0 rfl) ?_
  refine lv_aload_n hx hb dX5_settle_9 rfl (lv_at hl 1 rfl) ?_
  obtain ⟨x3, e, hf⟩ := ob hf
  refine q_getIN e B hw fd_8_2.1 fd_8_2.2.1 fd_8_2.2.2.1 fd_8_2.2.2.2.1 fd_8_2.2.2.2.2 rfl tw_1_61 dX5_settle_10 ?_
  obtain ⟨h4, e, hf⟩ := ob hf
  refine q_putI e B hw fd_5_1.1 fd_5_1.2.1 fd_5_1.2.2.1 fd_5_1.2.2.2.1 fd_5_1.2.2.2.2 rfl rfl (tyX5_ok 1 (by decide)) tyX5 tyX5_ok nmX5 tw_1_151 dX5_settle_13 (fun H locs hw => ?_)
  refine lv_aload_n hx hb dX5_settle_16 rfl (lv_at hl 0 rfl) ?_
  refine lv_aload_n hx hb dX5_settle_17 rfl (lv_at hl 1 rfl) ?_
  obtain ⟨x5, e, hf⟩ := ob hf
  refine q_getIN e B hw fd_8_3.1 fd_8_3.2.1 fd_8_3.2.2.1 fd_8_3.2.2.2.1 fd_8_3.2.2.2.2 rfl tw_1_64 dX5_settle_18 ?_
  obtain ⟨h6, e, hf⟩ := ob hf
  refine q_putI e B hw fd_5_2.1 fd_5_2.2.1 fd_5_2.2.2.1 fd_5_2.2.2.2.1 fd_5_2.2.2.2.2 rfl rfl (tyX5_ok 2 (by decide)) tyX5 tyX5_ok nmX5 tw_1_153 dX5_settle_21 (fun H locs hw => ?_)
  refine lv_iconst (v := 0) hx hb dX5_settle_24 (by decide) ?_
  refine lv_istore_n (lv' := [(2, .int 0), (0, .ref v0), (1, .ref v1)]) hx hb dX5_settle_25 rfl hl (by decide) rfl (fun ls hl => ?_)
  exact w_X5_settle_26 G B hz hc0 hr hlk  n h6 v0 v1 0 _ _ _ hw (lv_sub hl [1, 2, 0] rfl) hf
/-! SecondLife$People.joining(II)I -/
def f_X5_joining_42 (n : Nat) (z : Sh) (h : Hp) (k11 : Nat → Int32 → Int32 → Int32 → Int32 → Int32 → Option (Int32)) (v0 : Nat) (v1 : Int32) (v2 : Int32) (v3 : Int32) (v5 : Int32) (u0 : Int32) (u1 : Int32) : Option (Int32) :=
  (some (u1 ||| u0)).bind fun x1 =>
  (some (v5 + 1)).bind fun x2 =>
  k11 v0 v1 v2 v3 x1 x2
def f_X5_joining_11 (n : Nat) (z : Sh) (h : Hp) : Nat → Nat → Int32 → Int32 → Int32 → Int32 → Int32 → Option (Int32)
  | 0, _, _, _, _, _, _ => none
  | i + 1, v0, v1, v2, v3, v4, v5 =>
    (gI z h 5 v0 1).bind fun x1 =>
    if x1 ≤ v5 then
      some ((v4 &&& (v1 ^^^ (-1))) &&& (v2 ^^^ (-1)))
    else
      (f_X5_part z h v0 v5 7).bind fun x3 =>
      if v3 < x3 then
        f_X5_joining_42 n z h (f_X5_joining_11 n z h i) v0 v1 v2 v3 v5 0 v4
      else
        f_X5_joining_42 n z h (f_X5_joining_11 n z h i) v0 v1 v2 v3 v5 ((1 : Int32) <<< (v5 &&& 31)) v4
def f_X5_joining (n : Nat) (z : Sh) (h : Hp) (v0 : Nat) (v1 : Int32) (v2 : Int32) : Option (Int32) :=
  if z.K v0 = 5 then
    (f_J6_bitCount_0f7a4 z h v1).bind fun x1 =>
    f_X5_joining_11 n z h n v0 v1 v2 x1 0 0
  else none
theorem k_X5_joining {n : Nat} {z : Sh} {h : Hp} {v0 : Nat} {v1 : Int32} {v2 : Int32} {w : Int32} (hf : f_X5_joining n z h v0 v1 v2 = some w) : z.K v0 = 5 := by
  unfold f_X5_joining at hf
  exact (if_some hf).1
set_option maxHeartbeats 4000000 in
theorem w_X5_joining_42 {p : Program} {l : Launch} {e : Env} {s : State} {m : MethodId} {args : Array Value} {below : List Frame} {meth : Method} {c : Code} {s0 : State} {E : Ev} {z : Sh} {h : Hp} {n : Nat} {k11 : Nat → Int32 → Int32 → Int32 → Int32 → Int32 → Option (Int32)} {r : Int32} (G : Gl s0 E) (B : Bd p s0 s E m c cX5_joining 6 RX5) (hz : s0.heap.size ≤ z.sz) (hc0 : s.heap.size + 0 = z.sz) (hr : meth.sig.returnType = (some .int)) (hlk : meth.locks = false) (hk11 : ∀ (v0 : Nat) (v1 : Int32) (v2 : Int32) (v3 : Int32) (v4 : Int32) (v5 : Int32) (H : Heap) (locs : List Loc) (ls : Array Slot), Pw s0 s E z h H locs → lv_has ls 6 [(0, .ref v0), (1, .int v1), (2, .int v2), (3, .int v3), (4, .int v4), (5, .int v5)] → k11 v0 v1 v2 v3 v4 v5 = some r → W p l e (rmO 1 23) s m args below meth c H locs 0 0 (Zt below s0 E z h (some (.int r)) args s 0 0) (F0 m 11 ls [])) : ∀ (v0 : Nat) (v1 : Int32) (v2 : Int32) (v3 : Int32) (v5 : Int32) (u0 : Int32) (u1 : Int32) (H : Heap) (locs : List Loc) (ls : Array Slot), Pw s0 s E z h H locs → lv_has ls 6 [(0, .ref v0), (1, .int v1), (2, .int v2), (3, .int v3), (5, .int v5)] → f_X5_joining_42 n z h k11 v0 v1 v2 v3 v5 u0 u1 = some r → W p l e (rmO 1 23) s m args below meth c H locs 0 0 (Zt below s0 E z h (some (.int r)) args s 0 0) (F0 m 42 ls [.int u0, .int u1]) := by
  have hx := B.1
  have hb := B.2.1
  intro v0 v1 v2 v3 v5 u0 u1 H locs ls hw hl hf
  unfold f_X5_joining_42 at hf
  refine lv_ior hx hb dX5_joining_42 ?_
  obtain ⟨x1, e, hf⟩ := ob hf
  refine q_nmI e ?_
  refine lv_istore (lv' := [(4, .int x1), (0, .ref v0), (1, .int v1), (2, .int v2), (3, .int v3), (5, .int v5)]) hx hb dX5_joining_43 hl (by decide) rfl (fun ls hl => ?_)
  obtain ⟨x2, e, hf⟩ := ob hf
  refine lv_iinc (v := x2) (lv' := [(5, .int x2), (4, .int x1), (0, .ref v0), (1, .int v1), (2, .int v2), (3, .int v3)]) hx hb dX5_joining_45 hl (k := 5) rfl (Option.some.inj e) (by decide) rfl (fun ls hl => ?_)
  refine lv_goto (tgt := 11) hx hb dX5_joining_48 (by decide) ?_
  exact hk11 v0 v1 v2 v3 x1 x2 _ _ _ hw (lv_sub hl [2, 3, 4, 5, 1, 0] rfl) hf
set_option maxHeartbeats 4000000 in
theorem w_X5_joining_11 {p : Program} {l : Launch} {e : Env} {s : State} {m : MethodId} {args : Array Value} {below : List Frame} {meth : Method} {c : Code} {s0 : State} {E : Ev} {z : Sh} {h : Hp} {n : Nat} {r : Int32} (G : Gl s0 E) (B : Bd p s0 s E m c cX5_joining 6 RX5) (hz : s0.heap.size ≤ z.sz) (hc0 : s.heap.size + 0 = z.sz) (hr : meth.sig.returnType = (some .int)) (hlk : meth.locks = false) : ∀ (i : Nat), ∀ (v0 : Nat) (v1 : Int32) (v2 : Int32) (v3 : Int32) (v4 : Int32) (v5 : Int32) (H : Heap) (locs : List Loc) (ls : Array Slot), Pw s0 s E z h H locs → lv_has ls 6 [(0, .ref v0), (1, .int v1), (2, .int v2), (3, .int v3), (4, .int v4), (5, .int v5)] → f_X5_joining_11 n z h i v0 v1 v2 v3 v4 v5 = some r → W p l e (rmO 1 23) s m args below meth c H locs 0 0 (Zt below s0 E z h (some (.int r)) args s 0 0) (F0 m 11 ls []) := by
  have hx := B.1
  have hb := B.2.1
  intro i
  induction i with
  | zero =>
    intro v0 v1 v2 v3 v4 v5 H locs ls hw hl hf
    have hf := (f_X5_joining_11.eq_1 ..).symm.trans hf
    cases hf
  | succ i ih =>
    intro v0 v1 v2 v3 v4 v5 H locs ls hw hl hf
    have hf := (f_X5_joining_11.eq_2 ..).symm.trans hf
    refine lv_iload hx hb dX5_joining_11 (lv_at hl 5 rfl) ?_
    refine lv_aload_n hx hb dX5_joining_13 rfl (lv_at hl 0 rfl) ?_
    obtain ⟨x1, e, hf⟩ := ob hf
    refine q_getI e B hw fd_5_1.1 fd_5_1.2.1 fd_5_1.2.2.1 fd_5_1.2.2.2.1 fd_5_1.2.2.2.2 rfl tw_1_151 dX5_joining_14 ?_
    refine lv_icmp_ge (tgt := 51) hx hb dX5_joining_17 (by decide) (fun c2 => ?_) (fun c2 => ?_)
    · have hf := (if_pos c2).symm.trans hf
      refine lv_iload hx hb dX5_joining_51 (lv_at hl 4 rfl) ?_
      refine lv_iload_n hx hb dX5_joining_53 rfl (lv_at hl 1 rfl) ?_
      refine lv_iconst (v := (-1)) hx hb dX5_joining_54 (by decide) ?_
      refine lv_ixor hx hb dX5_joining_55 ?_
      refine lv_iand hx hb dX5_joining_56 ?_
      refine lv_iload_n hx hb dX5_joining_57 rfl (lv_at hl 2 rfl) ?_
      refine lv_iconst (v := (-1)) hx hb dX5_joining_58 (by decide) ?_
      refine lv_ixor hx hb dX5_joining_59 ?_
      refine lv_iand hx hb dX5_joining_60 ?_
      obtain rfl := so hf
      exact q_iret B hw hz hc0 hr hlk dX5_joining_61
    · have hf := (if_neg c2).symm.trans hf
      refine lv_iload hx hb dX5_joining_20 (lv_at hl 4 rfl) ?_
      refine lv_aload_n hx hb dX5_joining_22 rfl (lv_at hl 0 rfl) ?_
      refine lv_iload hx hb dX5_joining_23 (lv_at hl 5 rfl) ?_
      refine lv_bipush (v := 7) hx hb dX5_joining_25 (by decide) ?_
      obtain ⟨x3, e, hf⟩ := ob hf
      refine q_callV (As := [.int v5, .int 7]) (rest := [.int v4]) (st1 := [.int x3, .int v4]) (c_X5_part G e) B hw hz hc0 (k_X5_part e) (by decide) (ci := 5) rfl rfl my_X5_part mv_X5_part tw_4_123 ⟨Nat.le_of_ble_eq_true rfl, Nat.le_of_ble_eq_true rfl⟩ ⟨Nat.zero_le _, Nat.zero_le _⟩ rfl hl.1 rfl rfl (Nat.le_of_ble_eq_true rfl) dX5_joining_27 (fun H locs hw => ?_)
      refine lv_iload_n hx hb dX5_joining_30 rfl (lv_at hl 3 rfl) ?_
      refine lv_icmp_gt (tgt := 41) hx hb dX5_joining_31 (by decide) (fun c4 => ?_) (fun c4 => ?_)
      · have hf := (if_pos c4).symm.trans hf
        refine lv_iconst (v := 0) hx hb dX5_joining_41 (by decide) ?_
        exact w_X5_joining_42 G B hz hc0 hr hlk ih v0 v1 v2 v3 v5 0 v4 _ _ _ hw (lv_sub hl [0, 1, 2, 3, 5] rfl) hf
      · have hf := (if_neg c4).symm.trans hf
        refine lv_iconst (v := 1) hx hb dX5_joining_34 (by decide) ?_
        refine lv_iload hx hb dX5_joining_35 (lv_at hl 5 rfl) ?_
        refine lv_ishl hx hb dX5_joining_37 ?_
        refine lv_goto (tgt := 42) hx hb dX5_joining_38 (by decide) ?_
        exact w_X5_joining_42 G B hz hc0 hr hlk ih v0 v1 v2 v3 v5 ((1 : Int32) <<< (v5 &&& 31)) v4 _ _ _ hw (lv_sub hl [0, 1, 2, 3, 5] rfl) hf
set_option maxHeartbeats 4000000 in
theorem c_X5_joining {l : Launch} {s0 : State} {E : Ev} (G : Gl s0 E) {n : Nat} {z : Sh} {h : Hp} {v0 : Nat} {v1 : Int32} {v2 : Int32} {r : Int32} (hf : f_X5_joining n z h v0 v1 v2 = some r) : Ct l s0 E yX5_joining cX5_joining 6 (some .int) 1 23 [.ref v0, .int v1, .int v2] z h h (some (.int r)) := by
  refine Ct.of G (by decide) (Nat.le_of_ble_eq_true rfl) ?_
  intro p e s m below meth c ls B hw hz hc0 hr hlk hl
  have B : Bd p s0 s E m c cX5_joining 6 RX5 := B
  have hx := B.1
  have hb := B.2.1
  have hl : lv_has ls 6 [(0, .ref v0), (1, .int v1), (2, .int v2)] := hl
  unfold f_X5_joining at hf
  obtain ⟨_, hf⟩ := if_some hf
  refine lv_iload_n hx hb dX5_joining_0 rfl (lv_at hl 1 rfl) ?_
  obtain ⟨x1, e, hf⟩ := ob hf
  refine q_callS (As := [.int v1]) (rest := []) (st1 := [.int x1]) (c_J6_bitCount_0f7a4 G e) B hw hz hc0 my_J6_bitCount_0f7a4 mv_J6_bitCount_0f7a4 tw_5_189 ⟨Nat.le_of_ble_eq_true rfl, Nat.le_of_ble_eq_true rfl⟩ ⟨Nat.zero_le _, Nat.zero_le _⟩ rfl hl.1 rfl rfl (Nat.le_of_ble_eq_true rfl) dX5_joining_1 (fun H locs hw => ?_)
  refine lv_istore_n (lv' := [(3, .int x1), (0, .ref v0), (1, .int v1), (2, .int v2)]) hx hb dX5_joining_4 rfl hl (by decide) rfl (fun ls hl => ?_)
  refine lv_iconst (v := 0) hx hb dX5_joining_5 (by decide) ?_
  refine lv_istore (lv' := [(4, .int 0), (3, .int x1), (0, .ref v0), (1, .int v1), (2, .int v2)]) hx hb dX5_joining_6 hl (by decide) rfl (fun ls hl => ?_)
  refine lv_iconst (v := 0) hx hb dX5_joining_8 (by decide) ?_
  refine lv_istore (lv' := [(5, .int 0), (4, .int 0), (3, .int x1), (0, .ref v0), (1, .int v1), (2, .int v2)]) hx hb dX5_joining_9 hl (by decide) rfl (fun ls hl => ?_)
  exact w_X5_joining_11 G B hz hc0 hr hlk  n v0 v1 v2 x1 0 0 _ _ _ hw (lv_sub hl [3, 4, 5, 2, 1, 0] rfl) hf
/-! SecondLife$People.runOf(II)I -/
def f_X5_runOf_13 (n : Nat) (z : Sh) (h : Hp) : Nat → Nat → Int32 → Int32 → Int32 → Int32 → Option (Int32)
  | 0, _, _, _, _, _ => none
  | i + 1, v0, v2, v3, v4, v5 =>
    (gI z h 5 v0 1).bind fun x1 =>
    if x1 ≤ v5 then
      some v3
    else
      if v4 = 0 then
        some v3
      else
        (some (v3 ||| v4)).bind fun x4 =>
        (f_X5_joining n z h v0 x4 v2).bind fun x5 =>
        (some (v5 + 1)).bind fun x6 =>
        (f_X5_runOf_13 n z h i) v0 v2 x4 x5 x6
def f_X5_runOf (n : Nat) (z : Sh) (h : Hp) (v0 : Nat) (v1 : Int32) (v2 : Int32) : Option (Int32) :=
  if z.K v0 = 5 then
    (f_X5_joining n z h v0 v1 v2).bind fun x1 =>
    f_X5_runOf_13 n z h n v0 v2 v1 x1 0
  else none
theorem k_X5_runOf {n : Nat} {z : Sh} {h : Hp} {v0 : Nat} {v1 : Int32} {v2 : Int32} {w : Int32} (hf : f_X5_runOf n z h v0 v1 v2 = some w) : z.K v0 = 5 := by
  unfold f_X5_runOf at hf
  exact (if_some hf).1
set_option maxHeartbeats 4000000 in
theorem w_X5_runOf_13 {p : Program} {l : Launch} {e : Env} {s : State} {m : MethodId} {args : Array Value} {below : List Frame} {meth : Method} {c : Code} {s0 : State} {E : Ev} {z : Sh} {h : Hp} {n : Nat} {r : Int32} (G : Gl s0 E) (B : Bd p s0 s E m c cX5_runOf 6 RX5) (hz : s0.heap.size ≤ z.sz) (hc0 : s.heap.size + 0 = z.sz) (hr : meth.sig.returnType = (some .int)) (hlk : meth.locks = false) : ∀ (i : Nat), ∀ (v0 : Nat) (v2 : Int32) (v3 : Int32) (v4 : Int32) (v5 : Int32) (H : Heap) (locs : List Loc) (ls : Array Slot), Pw s0 s E z h H locs → lv_has ls 6 [(0, .ref v0), (2, .int v2), (3, .int v3), (4, .int v4), (5, .int v5)] → f_X5_runOf_13 n z h i v0 v2 v3 v4 v5 = some r → W p l e (rmO 2 48) s m args below meth c H locs 0 0 (Zt below s0 E z h (some (.int r)) args s 0 0) (F0 m 13 ls []) := by
  have hx := B.1
  have hb := B.2.1
  intro i
  induction i with
  | zero =>
    intro v0 v2 v3 v4 v5 H locs ls hw hl hf
    have hf := (f_X5_runOf_13.eq_1 ..).symm.trans hf
    cases hf
  | succ i ih =>
    intro v0 v2 v3 v4 v5 H locs ls hw hl hf
    have hf := (f_X5_runOf_13.eq_2 ..).symm.trans hf
    refine lv_iload hx hb dX5_runOf_13 (lv_at hl 4 rfl) ?_
    refine lv_aload_n hx hb dX5_runOf_15 rfl (lv_at hl 0 rfl) ?_
    obtain ⟨x1, e, hf⟩ := ob hf
    refine q_getI e B hw fd_5_1.1 fd_5_1.2.1 fd_5_1.2.2.1 fd_5_1.2.2.2.1 fd_5_1.2.2.2.2 rfl tw_1_151 dX5_runOf_16 ?_
    refine lv_icmp_ge (tgt := 46) hx hb dX5_runOf_19 (by decide) (fun c2 => ?_) (fun c2 => ?_)
    · have hf := (if_pos c2).symm.trans hf
      refine lv_iload_n hx hb dX5_runOf_46 rfl (lv_at hl 2 rfl) ?_
      obtain rfl := so hf
      exact q_iret B hw hz hc0 hr hlk dX5_runOf_47
    · have hf := (if_neg c2).symm.trans hf
      refine lv_iload hx hb dX5_runOf_22 (lv_at hl 3 rfl) ?_
      refine lv_if_eq (tgt := 46) hx hb dX5_runOf_24 (by decide) (fun c3 => ?_) (fun c3 => ?_)
      · have hf := (if_pos c3).symm.trans hf
        refine lv_iload_n hx hb dX5_runOf_46 rfl (lv_at hl 2 rfl) ?_
        obtain rfl := so hf
        exact q_iret B hw hz hc0 hr hlk dX5_runOf_47
      · have hf := (if_neg c3).symm.trans hf
        refine lv_iload_n hx hb dX5_runOf_27 rfl (lv_at hl 2 rfl) ?_
        refine lv_iload hx hb dX5_runOf_28 (lv_at hl 3 rfl) ?_
        refine lv_ior hx hb dX5_runOf_30 ?_
        obtain ⟨x4, e, hf⟩ := ob hf
        refine q_nmI e ?_
        refine lv_istore_n (lv' := [(3, .int x4), (0, .ref v0), (2, .int v2), (4, .int v4), (5, .int v5)]) hx hb dX5_runOf_31 rfl hl (by decide) rfl (fun ls hl => ?_)
        refine lv_aload_n hx hb dX5_runOf_32 rfl (lv_at hl 1 rfl) ?_
        refine lv_iload_n hx hb dX5_runOf_33 rfl (lv_at hl 0 rfl) ?_
        refine lv_iload_n hx hb dX5_runOf_34 rfl (lv_at hl 2 rfl) ?_
        obtain ⟨x5, e, hf⟩ := ob hf
        refine q_callV (As := [.int x4, .int v2]) (rest := []) (st1 := [.int x5]) (c_X5_joining G e) B hw hz hc0 (k_X5_joining e) (by decide) (ci := 5) rfl rfl my_X5_joining mv_X5_joining tw_5_185 ⟨Nat.le_of_ble_eq_true rfl, Nat.le_of_ble_eq_true rfl⟩ ⟨Nat.zero_le _, Nat.zero_le _⟩ rfl hl.1 rfl rfl (Nat.le_of_ble_eq_true rfl) dX5_runOf_35 (fun H locs hw => ?_)
        refine lv_istore (lv' := [(4, .int x5), (3, .int x4), (0, .ref v0), (2, .int v2), (5, .int v5)]) hx hb dX5_runOf_38 hl (by decide) rfl (fun ls hl => ?_)
        obtain ⟨x6, e, hf⟩ := ob hf
        refine lv_iinc (v := x6) (lv' := [(5, .int x6), (4, .int x5), (3, .int x4), (0, .ref v0), (2, .int v2)]) hx hb dX5_runOf_40 hl (k := 4) rfl (Option.some.inj e) (by decide) rfl (fun ls hl => ?_)
        refine lv_goto (tgt := 13) hx hb dX5_runOf_43 (by decide) ?_
        exact ih v0 v2 x4 x5 x6 _ _ _ hw (lv_sub hl [3, 4, 2, 1, 0] rfl) hf
set_option maxHeartbeats 4000000 in
theorem c_X5_runOf {l : Launch} {s0 : State} {E : Ev} (G : Gl s0 E) {n : Nat} {z : Sh} {h : Hp} {v0 : Nat} {v1 : Int32} {v2 : Int32} {r : Int32} (hf : f_X5_runOf n z h v0 v1 v2 = some r) : Ct l s0 E yX5_runOf cX5_runOf 6 (some .int) 2 48 [.ref v0, .int v1, .int v2] z h h (some (.int r)) := by
  refine Ct.of G (by decide) (Nat.le_of_ble_eq_true rfl) ?_
  intro p e s m below meth c ls B hw hz hc0 hr hlk hl
  have B : Bd p s0 s E m c cX5_runOf 6 RX5 := B
  have hx := B.1
  have hb := B.2.1
  have hl : lv_has ls 6 [(0, .ref v0), (1, .int v1), (2, .int v2)] := hl
  unfold f_X5_runOf at hf
  obtain ⟨_, hf⟩ := if_some hf
  refine lv_iload_n hx hb dX5_runOf_0 rfl (lv_at hl 1 rfl) ?_
  refine lv_istore_n (lv' := [(3, .int v1), (0, .ref v0), (1, .int v1), (2, .int v2)]) hx hb dX5_runOf_1 rfl hl (by decide) rfl (fun ls hl => ?_)
  refine lv_aload_n hx hb dX5_runOf_2 rfl (lv_at hl 1 rfl) ?_
  refine lv_iload_n hx hb dX5_runOf_3 rfl (lv_at hl 0 rfl) ?_
  refine lv_iload_n hx hb dX5_runOf_4 rfl (lv_at hl 3 rfl) ?_
  obtain ⟨x1, e, hf⟩ := ob hf
  refine q_callV (As := [.int v1, .int v2]) (rest := []) (st1 := [.int x1]) (c_X5_joining G e) B hw hz hc0 (k_X5_joining e) (by decide) (ci := 5) rfl rfl my_X5_joining mv_X5_joining tw_5_185 ⟨Nat.le_of_ble_eq_true rfl, Nat.le_of_ble_eq_true rfl⟩ ⟨Nat.zero_le _, Nat.zero_le _⟩ rfl hl.1 rfl rfl (Nat.le_of_ble_eq_true rfl) dX5_runOf_5 (fun H locs hw => ?_)
  refine lv_istore (lv' := [(4, .int x1), (3, .int v1), (0, .ref v0), (1, .int v1), (2, .int v2)]) hx hb dX5_runOf_8 hl (by decide) rfl (fun ls hl => ?_)
  refine lv_iconst (v := 0) hx hb dX5_runOf_10 (by decide) ?_
  refine lv_istore (lv' := [(5, .int 0), (4, .int x1), (3, .int v1), (0, .ref v0), (1, .int v1), (2, .int v2)]) hx hb dX5_runOf_11 hl (by decide) rfl (fun ls hl => ?_)
  exact w_X5_runOf_13 G B hz hc0 hr hlk  n v0 v2 v1 x1 0 _ _ _ hw (lv_sub hl [3, 5, 2, 1, 0] rfl) hf
/-! SecondLife$People.roundsOf(I)I -/
def f_X5_roundsOf_12 (n : Nat) (z : Sh) (h : Hp) : Nat → Nat → Int32 → Int32 → Int32 → Option (Int32)
  | 0, _, _, _, _ => none
  | i + 1, v0, v2, v3, v4 =>
    (gI z h 5 v0 1).bind fun x1 =>
    if x1 ≤ v4 then
      some v4
    else
      if v3 = 0 then
        some v4
      else
        (some (v2 ||| v3)).bind fun x4 =>
        (f_X5_joining n z h v0 x4 0).bind fun x5 =>
        (some (v4 + 1)).bind fun x6 =>
        (f_X5_roundsOf_12 n z h i) v0 x4 x5 x6
def f_X5_roundsOf (n : Nat) (z : Sh) (h : Hp) (v0 : Nat) (v1 : Int32) : Option (Int32) :=
  if z.K v0 = 5 then
    (f_X5_joining n z h v0 v1 0).bind fun x1 =>
    f_X5_roundsOf_12 n z h n v0 v1 x1 0
  else none
theorem k_X5_roundsOf {n : Nat} {z : Sh} {h : Hp} {v0 : Nat} {v1 : Int32} {w : Int32} (hf : f_X5_roundsOf n z h v0 v1 = some w) : z.K v0 = 5 := by
  unfold f_X5_roundsOf at hf
  exact (if_some hf).1
set_option maxHeartbeats 4000000 in
theorem w_X5_roundsOf_12 {p : Program} {l : Launch} {e : Env} {s : State} {m : MethodId} {args : Array Value} {below : List Frame} {meth : Method} {c : Code} {s0 : State} {E : Ev} {z : Sh} {h : Hp} {n : Nat} {r : Int32} (G : Gl s0 E) (B : Bd p s0 s E m c cX5_roundsOf 5 RX5) (hz : s0.heap.size ≤ z.sz) (hc0 : s.heap.size + 0 = z.sz) (hr : meth.sig.returnType = (some .int)) (hlk : meth.locks = false) : ∀ (i : Nat), ∀ (v0 : Nat) (v2 : Int32) (v3 : Int32) (v4 : Int32) (H : Heap) (locs : List Loc) (ls : Array Slot), Pw s0 s E z h H locs → lv_has ls 5 [(0, .ref v0), (2, .int v2), (3, .int v3), (4, .int v4)] → f_X5_roundsOf_12 n z h i v0 v2 v3 v4 = some r → W p l e (rmO 2 48) s m args below meth c H locs 0 0 (Zt below s0 E z h (some (.int r)) args s 0 0) (F0 m 12 ls []) := by
  have hx := B.1
  have hb := B.2.1
  intro i
  induction i with
  | zero =>
    intro v0 v2 v3 v4 H locs ls hw hl hf
    have hf := (f_X5_roundsOf_12.eq_1 ..).symm.trans hf
    cases hf
  | succ i ih =>
    intro v0 v2 v3 v4 H locs ls hw hl hf
    have hf := (f_X5_roundsOf_12.eq_2 ..).symm.trans hf
    refine lv_iload hx hb dX5_roundsOf_12 (lv_at hl 3 rfl) ?_
    refine lv_aload_n hx hb dX5_roundsOf_14 rfl (lv_at hl 0 rfl) ?_
    obtain ⟨x1, e, hf⟩ := ob hf
    refine q_getI e B hw fd_5_1.1 fd_5_1.2.1 fd_5_1.2.2.1 fd_5_1.2.2.2.1 fd_5_1.2.2.2.2 rfl tw_1_151 dX5_roundsOf_15 ?_
    refine lv_icmp_ge (tgt := 42) hx hb dX5_roundsOf_18 (by decide) (fun c2 => ?_) (fun c2 => ?_)
    · have hf := (if_pos c2).symm.trans hf
      refine lv_iload hx hb dX5_roundsOf_42 (lv_at hl 3 rfl) ?_
      obtain rfl := so hf
      exact q_iret B hw hz hc0 hr hlk dX5_roundsOf_44
    · have hf := (if_neg c2).symm.trans hf
      refine lv_iload_n hx hb dX5_roundsOf_21 rfl (lv_at hl 2 rfl) ?_
      refine lv_if_eq (tgt := 42) hx hb dX5_roundsOf_22 (by decide) (fun c3 => ?_) (fun c3 => ?_)
      · have hf := (if_pos c3).symm.trans hf
        refine lv_iload hx hb dX5_roundsOf_42 (lv_at hl 3 rfl) ?_
        obtain rfl := so hf
        exact q_iret B hw hz hc0 hr hlk dX5_roundsOf_44
      · have hf := (if_neg c3).symm.trans hf
        refine lv_iload_n hx hb dX5_roundsOf_25 rfl (lv_at hl 1 rfl) ?_
        refine lv_iload_n hx hb dX5_roundsOf_26 rfl (lv_at hl 2 rfl) ?_
        refine lv_ior hx hb dX5_roundsOf_27 ?_
        obtain ⟨x4, e, hf⟩ := ob hf
        refine q_nmI e ?_
        refine lv_istore_n (lv' := [(2, .int x4), (0, .ref v0), (3, .int v3), (4, .int v4)]) hx hb dX5_roundsOf_28 rfl hl (by decide) rfl (fun ls hl => ?_)
        refine lv_aload_n hx hb dX5_roundsOf_29 rfl (lv_at hl 1 rfl) ?_
        refine lv_iload_n hx hb dX5_roundsOf_30 rfl (lv_at hl 0 rfl) ?_
        refine lv_iconst (v := 0) hx hb dX5_roundsOf_31 (by decide) ?_
        obtain ⟨x5, e, hf⟩ := ob hf
        refine q_callV (As := [.int x4, .int 0]) (rest := []) (st1 := [.int x5]) (c_X5_joining G e) B hw hz hc0 (k_X5_joining e) (by decide) (ci := 5) rfl rfl my_X5_joining mv_X5_joining tw_5_185 ⟨Nat.le_of_ble_eq_true rfl, Nat.le_of_ble_eq_true rfl⟩ ⟨Nat.zero_le _, Nat.zero_le _⟩ rfl hl.1 rfl rfl (Nat.le_of_ble_eq_true rfl) dX5_roundsOf_32 (fun H locs hw => ?_)
        refine lv_istore_n (lv' := [(3, .int x5), (2, .int x4), (0, .ref v0), (4, .int v4)]) hx hb dX5_roundsOf_35 rfl hl (by decide) rfl (fun ls hl => ?_)
        obtain ⟨x6, e, hf⟩ := ob hf
        refine lv_iinc (v := x6) (lv' := [(4, .int x6), (3, .int x5), (2, .int x4), (0, .ref v0)]) hx hb dX5_roundsOf_36 hl (k := 3) rfl (Option.some.inj e) (by decide) rfl (fun ls hl => ?_)
        refine lv_goto (tgt := 12) hx hb dX5_roundsOf_39 (by decide) ?_
        exact ih v0 x4 x5 x6 _ _ _ hw (lv_sub hl [3, 2, 1, 0] rfl) hf
set_option maxHeartbeats 4000000 in
theorem c_X5_roundsOf {l : Launch} {s0 : State} {E : Ev} (G : Gl s0 E) {n : Nat} {z : Sh} {h : Hp} {v0 : Nat} {v1 : Int32} {r : Int32} (hf : f_X5_roundsOf n z h v0 v1 = some r) : Ct l s0 E yX5_roundsOf cX5_roundsOf 5 (some .int) 2 48 [.ref v0, .int v1] z h h (some (.int r)) := by
  refine Ct.of G (by decide) (Nat.le_of_ble_eq_true rfl) ?_
  intro p e s m below meth c ls B hw hz hc0 hr hlk hl
  have B : Bd p s0 s E m c cX5_roundsOf 5 RX5 := B
  have hx := B.1
  have hb := B.2.1
  have hl : lv_has ls 5 [(0, .ref v0), (1, .int v1)] := hl
  unfold f_X5_roundsOf at hf
  obtain ⟨_, hf⟩ := if_some hf
  refine lv_iload_n hx hb dX5_roundsOf_0 rfl (lv_at hl 1 rfl) ?_
  refine lv_istore_n (lv' := [(2, .int v1), (0, .ref v0), (1, .int v1)]) hx hb dX5_roundsOf_1 rfl hl (by decide) rfl (fun ls hl => ?_)
  refine lv_aload_n hx hb dX5_roundsOf_2 rfl (lv_at hl 1 rfl) ?_
  refine lv_iload_n hx hb dX5_roundsOf_3 rfl (lv_at hl 0 rfl) ?_
  refine lv_iconst (v := 0) hx hb dX5_roundsOf_4 (by decide) ?_
  obtain ⟨x1, e, hf⟩ := ob hf
  refine q_callV (As := [.int v1, .int 0]) (rest := []) (st1 := [.int x1]) (c_X5_joining G e) B hw hz hc0 (k_X5_joining e) (by decide) (ci := 5) rfl rfl my_X5_joining mv_X5_joining tw_5_185 ⟨Nat.le_of_ble_eq_true rfl, Nat.le_of_ble_eq_true rfl⟩ ⟨Nat.zero_le _, Nat.zero_le _⟩ rfl hl.1 rfl rfl (Nat.le_of_ble_eq_true rfl) dX5_roundsOf_5 (fun H locs hw => ?_)
  refine lv_istore_n (lv' := [(3, .int x1), (2, .int v1), (0, .ref v0), (1, .int v1)]) hx hb dX5_roundsOf_8 rfl hl (by decide) rfl (fun ls hl => ?_)
  refine lv_iconst (v := 0) hx hb dX5_roundsOf_9 (by decide) ?_
  refine lv_istore (lv' := [(4, .int 0), (3, .int x1), (2, .int v1), (0, .ref v0), (1, .int v1)]) hx hb dX5_roundsOf_10 hl (by decide) rfl (fun ls hl => ?_)
  exact w_X5_roundsOf_12 G B hz hc0 hr hlk  n v0 v1 x1 0 _ _ _ hw (lv_sub hl [3, 2, 1, 0] rfl) hf
