/-! SecondLife$Ways.<init>(LSecondLife$Reckoner;)V -/
def f_X10_init (z : Sh) (h : Hp) (v0 : Nat) (v1 : Nat) : Option (Hp × Sh) :=
  if z.K v0 = 10 then
    gd2 z <|
    (nwA z h 17 10).bind fun (a1, h2, z3) =>
    gd2 z3 <|
    (pR z3 h2 10 v0 1 (some a1)).bind fun h4 =>
    (nwA z3 h4 14 7).bind fun (a5, h6, z7) =>
    gd2 z7 <|
    (pR z7 h6 10 v0 2 (some a5)).bind fun h8 =>
    (nwO z7 h8 8).bind fun (a9, h10, z11) =>
    gd2 z11 <|
    (f_X8_init z11 h10 a9).bind fun (h12, z13) =>
    gd2 z13 <|
    (pR z13 h12 10 v0 3 (some a9)).bind fun h14 =>
    (pI z13 h14 10 v0 4 1).bind fun h15 =>
    (pI z13 h15 10 v0 5 0).bind fun h16 =>
    (pZ z13 h16 10 v0 6 1).bind fun h17 =>
    (pI z13 h17 10 v0 7 0).bind fun h18 =>
    (pI z13 h18 10 v0 8 0).bind fun h19 =>
    (pR z13 h19 10 v0 0 (some v1)).bind fun h20 =>
    some (h20, z13)
  else none
theorem k_X10_init {z : Sh} {h : Hp} {v0 : Nat} {v1 : Nat} {w : Hp × Sh} (hf : f_X10_init z h v0 v1 = some w) : z.K v0 = 10 := by
  unfold f_X10_init at hf
  exact (if_some hf).1
theorem mo_X10_init {z : Sh} {h : Hp} {v0 : Nat} {v1 : Nat} {h' : Hp} {zE : Sh} (hf : f_X10_init z h v0 v1 = some (h', zE)) : z.sz ≤ zE.sz ∧ z.sl ≤ zE.sl := by
  unfold f_X10_init at hf
  exact (gd2_some (if_some hf).2).1
set_option maxHeartbeats 4000000 in
theorem c_X10_init {l : Launch} {s0 : State} {E : Ev} (G : Gl s0 E) {z : Sh} {h : Hp} {v0 : Nat} {v1 : Nat} {h' : Hp} {zE : Sh} (hf : f_X10_init z h v0 v1 = some (h', zE)) : Ca l s0 E yX10_init cX10_init 2 none 2 44 [.ref v0, .ref v1] z zE h h' (none) := by
  refine Ca.of G (by decide +kernel) (Nat.le_of_ble_eq_true rfl) (mo_X10_init hf) ?_
  intro p e s m below meth c ls B hw hM hr hlk hnm0 hl
  have B : Bd p s0 s E m c cX10_init 2 RX10 := B
  have hx := B.1
  have hb := B.2.1
  have hl : lv_has ls 2 [(0, .ref v0), (1, .ref v1)] := hl
  have hin : meth.name = "<init>" := hnm0
  unfold f_X10_init at hf
  obtain ⟨_, hf⟩ := if_some hf
  obtain ⟨_, hf⟩ := gd2_some hf
  refine lv_aload_n hx hb dX10_init_0 rfl (lv_at hl 0 rfl) ?_
  refine q_obj B hl.1 tw_1_222 tw_1_29 tw_1_30 (Nat.le_of_ble_eq_true rfl) (Nat.le_of_ble_eq_true rfl) dX10_init_1 ?_
  refine lv_aload_n hx hb dX10_init_4 rfl (lv_at hl 0 rfl) ?_
  refine lv_bipush (v := 10) hx hb dX10_init_5 (by decide) ?_
  obtain ⟨⟨a1, h2, z3⟩, e, hf⟩ := ob hf
  obtain ⟨hg, hf⟩ := gd2_some hf
  refine q_newQ (t0 := 4) e hg B hw hM (by decide) (by decide) rfl rfl tw_1_223 (va_AO.of (A := #[]) (B.w tw_1_224 rfl)) dX10_init_7 (fun H locs hw hM => ?_)
  obtain ⟨h4, e, hf⟩ := ob hf
  refine q_putRF e B hw hin fd_10_1.1 fd_10_1.2.1 fd_10_1.2.2.1 fd_10_1.2.2.2.1 fd_10_1.2.2.2.2 rfl rfl rfl (tyX10_ok 1 (by decide)) (Or.inr ⟨_, rfl⟩) tyX10 tyX10_ok nmX10 tw_1_228 dX10_init_10 (fun H locs hw => ?_)
  refine lv_aload_n hx hb dX10_init_13 rfl (lv_at hl 0 rfl) ?_
  refine lv_bipush (v := 7) hx hb dX10_init_14 (by decide) ?_
  obtain ⟨⟨a5, h6, z7⟩, e, hf⟩ := ob hf
  obtain ⟨hg, hf⟩ := gd2_some hf
  refine q_newA (t0 := 1) e hg B hw hM (by decide) rfl rfl rfl (cfn_14 E _ _) arn_14 tw_1_102 dX10_init_16 (fun H locs hw hM => ?_)
  obtain ⟨h8, e, hf⟩ := ob hf
  refine q_putRF e B hw hin fd_10_2.1 fd_10_2.2.1 fd_10_2.2.2.1 fd_10_2.2.2.2.1 fd_10_2.2.2.2.2 rfl rfl rfl (tyX10_ok 2 (by decide)) (Or.inr ⟨_, rfl⟩) tyX10 tyX10_ok nmX10 tw_1_229 dX10_init_18 (fun H locs hw => ?_)
  refine lv_aload_n hx hb dX10_init_21 rfl (lv_at hl 0 rfl) ?_
  obtain ⟨⟨a9, h10, z11⟩, e, hf⟩ := ob hf
  obtain ⟨hg, hf⟩ := gd2_some hf
  refine q_newO e hg B hw hM (by decide) (ci := 8) rfl rfl tyX8 tyX8_ok dfX8 tw_1_225 tw_1_38 tw_1_3 dX10_init_22 (fun H locs hw hM => ?_)
  refine lv_dup hx hb dX10_init_25 rfl ?_
  obtain ⟨⟨h12, z13⟩, e, hf⟩ := ob hf
  obtain ⟨hg, hf⟩ := gd2_some hf
  refine q_callINA (As := []) (rest := [.ref a9, .ref v0]) (c_X8_init G e) (mo_X8_init e) hg B hw hM rfl my_X8_init mv_X8_init tw_1_226 ⟨Nat.le_of_ble_eq_true rfl, Nat.le_of_ble_eq_true rfl⟩ rfl hl.1 rfl (Nat.le_of_ble_eq_true rfl) dX10_init_26 (fun H locs hw hM => ?_)
  obtain ⟨h14, e, hf⟩ := ob hf
  refine q_putR e B hw fd_10_3.1 fd_10_3.2.1 fd_10_3.2.2.1 fd_10_3.2.2.2.1 fd_10_3.2.2.2.2 rfl rfl (tyX10_ok 3 (by decide)) (Or.inl ⟨_, rfl⟩) tyX10 tyX10_ok nmX10 tw_1_230 dX10_init_29 (fun H locs hw => ?_)
  refine lv_aload_n hx hb dX10_init_32 rfl (lv_at hl 0 rfl) ?_
  refine lv_iconst (v := 1) hx hb dX10_init_33 (by decide) ?_
  obtain ⟨h15, e, hf⟩ := ob hf
  refine q_putI e B hw fd_10_4.1 fd_10_4.2.1 fd_10_4.2.2.1 fd_10_4.2.2.2.1 fd_10_4.2.2.2.2 rfl rfl (tyX10_ok 4 (by decide)) tyX10 tyX10_ok nmX10 tw_1_233 dX10_init_34 (fun H locs hw => ?_)
  refine lv_aload_n hx hb dX10_init_37 rfl (lv_at hl 0 rfl) ?_
  refine lv_iconst (v := 0) hx hb dX10_init_38 (by decide) ?_
  obtain ⟨h16, e, hf⟩ := ob hf
  refine q_putI e B hw fd_10_5.1 fd_10_5.2.1 fd_10_5.2.2.1 fd_10_5.2.2.2.1 fd_10_5.2.2.2.2 rfl rfl (tyX10_ok 5 (by decide)) tyX10 tyX10_ok nmX10 tw_1_234 dX10_init_39 (fun H locs hw => ?_)
  refine lv_aload_n hx hb dX10_init_42 rfl (lv_at hl 0 rfl) ?_
  refine lv_iconst (v := 1) hx hb dX10_init_43 (by decide) ?_
  obtain ⟨h17, e, hf⟩ := ob hf
  refine q_putZ e B hw fd_10_6.1 fd_10_6.2.1 fd_10_6.2.2.1 fd_10_6.2.2.2.1 fd_10_6.2.2.2.2 rfl rfl (tyX10_ok 6 (by decide)) tyX10 tyX10_ok nmX10 tw_1_235 dX10_init_44 (fun H locs hw => ?_)
  refine lv_aload_n hx hb dX10_init_47 rfl (lv_at hl 0 rfl) ?_
  refine lv_iconst (v := 0) hx hb dX10_init_48 (by decide) ?_
  obtain ⟨h18, e, hf⟩ := ob hf
  refine q_putI e B hw fd_10_7.1 fd_10_7.2.1 fd_10_7.2.2.1 fd_10_7.2.2.2.1 fd_10_7.2.2.2.2 rfl rfl (tyX10_ok 7 (by decide)) tyX10 tyX10_ok nmX10 tw_1_237 dX10_init_49 (fun H locs hw => ?_)
  refine lv_aload_n hx hb dX10_init_52 rfl (lv_at hl 0 rfl) ?_
  refine lv_iconst (v := 0) hx hb dX10_init_53 (by decide) ?_
  obtain ⟨h19, e, hf⟩ := ob hf
  refine q_putI e B hw fd_10_8.1 fd_10_8.2.1 fd_10_8.2.2.1 fd_10_8.2.2.2.1 fd_10_8.2.2.2.2 rfl rfl (tyX10_ok 8 (by decide)) tyX10 tyX10_ok nmX10 tw_2_0 dX10_init_54 (fun H locs hw => ?_)
  refine lv_aload_n hx hb dX10_init_57 rfl (lv_at hl 0 rfl) ?_
  refine lv_aload_n hx hb dX10_init_58 rfl (lv_at hl 1 rfl) ?_
  obtain ⟨h20, e, hf⟩ := ob hf
  refine q_putRF e B hw hin fd_10_0.1 fd_10_0.2.1 fd_10_0.2.2.1 fd_10_0.2.2.2.1 fd_10_0.2.2.2.2 rfl rfl rfl (tyX10_ok 0 (by decide)) (Or.inl ⟨_, rfl⟩) tyX10 tyX10_ok nmX10 tw_1_227 dX10_init_59 (fun H locs hw => ?_)
  obtain ⟨rfl, rfl⟩ := so2 hf
  exact q_vret B hw hM.hz hM.hc0 hr hlk dX10_init_62
/-! SecondLife$Ways.standOf(LSecondLife$People;I)I -/
def f_X10_standOf_51 (z : Sh) (h : Hp) (v0 : Nat) (v1 : Int32) (v2 : Int32) (u0 : Int32) : Option (Int32) :=
  (f_X5_part z h v0 v1 0).bind fun x1 =>
  some ((((v2 * 7) + x1) * 25) + u0)
def f_X10_standOf_22 (z : Sh) (h : Hp) (v0 : Nat) (v1 : Int32) (u0 : Int32) : Option (Int32) :=
  (f_X5_part z h v0 v1 3).bind fun x1 =>
  if x1 = 9 then
    f_X10_standOf_51 z h v0 v1 u0 0
  else
    (f_X5_part z h v0 v1 4).bind fun x3 =>
    f_X10_standOf_51 z h v0 v1 u0 ((x1 * 6) + x3)
def f_X10_standOf (z : Sh) (h : Hp) (v0 : Nat) (v1 : Int32) : Option (Int32) :=
  (f_X5_part z h v0 v1 1).bind fun x1 =>
  if x1 = 2 then
    (f_X5_part z h v0 v1 5).bind fun x3 =>
    f_X10_standOf_22 z h v0 v1 (1 + x3)
  else
    f_X10_standOf_22 z h v0 v1 0
set_option maxHeartbeats 4000000 in
theorem w_X10_standOf_51 {p : Program} {l : Launch} {e : Env} {s : State} {m : MethodId} {args : Array Value} {below : List Frame} {meth : Method} {c : Code} {s0 : State} {E : Ev} {z : Sh} {h : Hp} {r : Int32} (G : Gl s0 E) (B : Bd p s0 s E m c cX10_standOf 5 RX10) (hz : s0.heap.size ≤ z.sz) (hc0 : s.heap.size + 0 = z.sz) (hr : meth.sig.returnType = (some .int)) (hlk : meth.locks = false) : ∀ (v0 : Nat) (v1 : Int32) (v2 : Int32) (u0 : Int32) (H : Heap) (locs : List Loc) (ls : Array Slot), Pw s0 s E z h H locs → lv_has ls 5 [(0, .ref v0), (1, .int v1), (2, .int v2)] → f_X10_standOf_51 z h v0 v1 v2 u0 = some r → W p l e (rmO 1 23) s m args below meth c H locs 0 0 (Zt below s0 E z h (some (.int r)) args s 0 0) (F0 m 51 ls [.int u0]) := by
  have hx := B.1
  have hb := B.2.1
  intro v0 v1 v2 u0 H locs ls hw hl hf
  unfold f_X10_standOf_51 at hf
  refine lv_istore (lv' := [(4, .int u0), (0, .ref v0), (1, .int v1), (2, .int v2)]) hx hb dX10_standOf_51 hl (by decide) rfl (fun ls hl => ?_)
  refine lv_iload_n hx hb dX10_standOf_53 rfl (lv_at hl 3 rfl) ?_
  refine lv_bipush (v := 7) hx hb dX10_standOf_54 (by decide) ?_
  refine lv_imul hx hb dX10_standOf_56 ?_
  refine lv_aload_n hx hb dX10_standOf_57 rfl (lv_at hl 1 rfl) ?_
  refine lv_iload_n hx hb dX10_standOf_58 rfl (lv_at hl 2 rfl) ?_
  refine lv_iconst (v := 0) hx hb dX10_standOf_59 (by decide) ?_
  obtain ⟨x1, e, hf⟩ := ob hf
  refine q_callVN (As := [.int v1, .int 0]) (rest := [.int (v2 * 7)]) (st1 := [.int x1, .int (v2 * 7)]) (c_X5_part G e) B hw hz hc0 (k_X5_part e) (by decide) (ci := 5) rfl rfl my_X5_part mv_X5_part tw_4_161 ⟨Nat.le_of_ble_eq_true rfl, Nat.le_of_ble_eq_true rfl⟩ ⟨Nat.zero_le _, Nat.zero_le _⟩ rfl hl.1 rfl rfl (Nat.le_of_ble_eq_true rfl) dX10_standOf_60 (fun H locs hw => ?_)
  refine lv_iadd hx hb dX10_standOf_63 ?_
  refine lv_bipush (v := 25) hx hb dX10_standOf_64 (by decide) ?_
  refine lv_imul hx hb dX10_standOf_66 ?_
  refine lv_iload hx hb dX10_standOf_67 (lv_at hl 0 rfl) ?_
  refine lv_iadd hx hb dX10_standOf_69 ?_
  obtain rfl := so hf
  exact q_iret B hw hz hc0 hr hlk dX10_standOf_70
set_option maxHeartbeats 4000000 in
theorem w_X10_standOf_22 {p : Program} {l : Launch} {e : Env} {s : State} {m : MethodId} {args : Array Value} {below : List Frame} {meth : Method} {c : Code} {s0 : State} {E : Ev} {z : Sh} {h : Hp} {r : Int32} (G : Gl s0 E) (B : Bd p s0 s E m c cX10_standOf 5 RX10) (hz : s0.heap.size ≤ z.sz) (hc0 : s.heap.size + 0 = z.sz) (hr : meth.sig.returnType = (some .int)) (hlk : meth.locks = false) : ∀ (v0 : Nat) (v1 : Int32) (u0 : Int32) (H : Heap) (locs : List Loc) (ls : Array Slot), Pw s0 s E z h H locs → lv_has ls 5 [(0, .ref v0), (1, .int v1)] → f_X10_standOf_22 z h v0 v1 u0 = some r → W p l e (rmO 1 23) s m args below meth c H locs 0 0 (Zt below s0 E z h (some (.int r)) args s 0 0) (F0 m 22 ls [.int u0]) := by
  have hx := B.1
  have hb := B.2.1
  intro v0 v1 u0 H locs ls hw hl hf
  unfold f_X10_standOf_22 at hf
  refine lv_istore_n (lv' := [(2, .int u0), (0, .ref v0), (1, .int v1)]) hx hb dX10_standOf_22 rfl hl (by decide) rfl (fun ls hl => ?_)
  refine lv_aload_n hx hb dX10_standOf_23 rfl (lv_at hl 1 rfl) ?_
  refine lv_iload_n hx hb dX10_standOf_24 rfl (lv_at hl 2 rfl) ?_
  refine lv_iconst (v := 3) hx hb dX10_standOf_25 (by decide) ?_
  obtain ⟨x1, e, hf⟩ := ob hf
  refine q_callVN (As := [.int v1, .int 3]) (rest := []) (st1 := [.int x1]) (c_X5_part G e) B hw hz hc0 (k_X5_part e) (by decide) (ci := 5) rfl rfl my_X5_part mv_X5_part tw_4_161 ⟨Nat.le_of_ble_eq_true rfl, Nat.le_of_ble_eq_true rfl⟩ ⟨Nat.zero_le _, Nat.zero_le _⟩ rfl hl.1 rfl rfl (Nat.le_of_ble_eq_true rfl) dX10_standOf_26 (fun H locs hw => ?_)
  refine lv_istore_n (lv' := [(3, .int x1), (2, .int u0), (0, .ref v0), (1, .int v1)]) hx hb dX10_standOf_29 rfl hl (by decide) rfl (fun ls hl => ?_)
  refine lv_iload_n hx hb dX10_standOf_30 rfl (lv_at hl 0 rfl) ?_
  refine lv_bipush (v := 9) hx hb dX10_standOf_31 (by decide) ?_
  refine lv_icmp_ne (tgt := 40) hx hb dX10_standOf_33 (by decide) (fun c2 => ?_) (fun c2 => ?_)
  · have hf := (if_neg c2).symm.trans hf
    refine lv_iload_n hx hb dX10_standOf_40 rfl (lv_at hl 0 rfl) ?_
    refine lv_bipush (v := 6) hx hb dX10_standOf_41 (by decide) ?_
    refine lv_imul hx hb dX10_standOf_43 ?_
    refine lv_aload_n hx hb dX10_standOf_44 rfl (lv_at hl 2 rfl) ?_
    refine lv_iload_n hx hb dX10_standOf_45 rfl (lv_at hl 3 rfl) ?_
    refine lv_iconst (v := 4) hx hb dX10_standOf_46 (by decide) ?_
    obtain ⟨x3, e, hf⟩ := ob hf
    refine q_callVN (As := [.int v1, .int 4]) (rest := [.int (x1 * 6)]) (st1 := [.int x3, .int (x1 * 6)]) (c_X5_part G e) B hw hz hc0 (k_X5_part e) (by decide) (ci := 5) rfl rfl my_X5_part mv_X5_part tw_4_161 ⟨Nat.le_of_ble_eq_true rfl, Nat.le_of_ble_eq_true rfl⟩ ⟨Nat.zero_le _, Nat.zero_le _⟩ rfl hl.1 rfl rfl (Nat.le_of_ble_eq_true rfl) dX10_standOf_47 (fun H locs hw => ?_)
    refine lv_iadd hx hb dX10_standOf_50 ?_
    exact w_X10_standOf_51 G B hz hc0 hr hlk  v0 v1 u0 ((x1 * 6) + x3) _ _ _ hw (lv_sub hl [2, 3, 1] rfl) hf
  · have hf := (if_pos c2).symm.trans hf
    refine lv_iconst (v := 0) hx hb dX10_standOf_36 (by decide) ?_
    refine lv_goto (tgt := 51) hx hb dX10_standOf_37 (by decide) ?_
    exact w_X10_standOf_51 G B hz hc0 hr hlk  v0 v1 u0 0 _ _ _ hw (lv_sub hl [2, 3, 1] rfl) hf
set_option maxHeartbeats 4000000 in
theorem c_X10_standOf {l : Launch} {s0 : State} {E : Ev} (G : Gl s0 E) {z : Sh} {h : Hp} {v0 : Nat} {v1 : Int32} {r : Int32} (hf : f_X10_standOf z h v0 v1 = some r) : Ct l s0 E yX10_standOf cX10_standOf 5 (some .int) 1 23 [.ref v0, .int v1] z h h (some (.int r)) := by
  refine Ct.of G (by decide) (Nat.le_of_ble_eq_true rfl) ?_
  intro p e s m below meth c ls B hw hz hc0 hr hlk hl
  have B : Bd p s0 s E m c cX10_standOf 5 RX10 := B
  have hx := B.1
  have hb := B.2.1
  have hl : lv_has ls 5 [(0, .ref v0), (1, .int v1)] := hl
  unfold f_X10_standOf at hf
  refine lv_aload_n hx hb dX10_standOf_0 rfl (lv_at hl 0 rfl) ?_
  refine lv_iload_n hx hb dX10_standOf_1 rfl (lv_at hl 1 rfl) ?_
  refine lv_iconst (v := 1) hx hb dX10_standOf_2 (by decide) ?_
  obtain ⟨x1, e, hf⟩ := ob hf
  refine q_callVN (As := [.int v1, .int 1]) (rest := []) (st1 := [.int x1]) (c_X5_part G e) B hw hz hc0 (k_X5_part e) (by decide) (ci := 5) rfl rfl my_X5_part mv_X5_part tw_4_161 ⟨Nat.le_of_ble_eq_true rfl, Nat.le_of_ble_eq_true rfl⟩ ⟨Nat.zero_le _, Nat.zero_le _⟩ rfl hl.1 rfl rfl (Nat.le_of_ble_eq_true rfl) dX10_standOf_3 (fun H locs hw => ?_)
  refine lv_iconst (v := 2) hx hb dX10_standOf_6 (by decide) ?_
  refine lv_icmp_ne (tgt := 21) hx hb dX10_standOf_7 (by decide) (fun c2 => ?_) (fun c2 => ?_)
  · have hf := (if_neg c2).symm.trans hf
    refine lv_iconst (v := 0) hx hb dX10_standOf_21 (by decide) ?_
    exact w_X10_standOf_22 G B hz hc0 hr hlk  v0 v1 0 _ _ _ hw (lv_sub hl [0, 1] rfl) hf
  · have hf := (if_pos c2).symm.trans hf
    refine lv_iconst (v := 1) hx hb dX10_standOf_10 (by decide) ?_
    refine lv_aload_n hx hb dX10_standOf_11 rfl (lv_at hl 0 rfl) ?_
    refine lv_iload_n hx hb dX10_standOf_12 rfl (lv_at hl 1 rfl) ?_
    refine lv_iconst (v := 5) hx hb dX10_standOf_13 (by decide) ?_
    obtain ⟨x3, e, hf⟩ := ob hf
    refine q_callVN (As := [.int v1, .int 5]) (rest := [.int 1]) (st1 := [.int x3, .int 1]) (c_X5_part G e) B hw hz hc0 (k_X5_part e) (by decide) (ci := 5) rfl rfl my_X5_part mv_X5_part tw_4_161 ⟨Nat.le_of_ble_eq_true rfl, Nat.le_of_ble_eq_true rfl⟩ ⟨Nat.zero_le _, Nat.zero_le _⟩ rfl hl.1 rfl rfl (Nat.le_of_ble_eq_true rfl) dX10_standOf_14 (fun H locs hw => ?_)
    refine lv_iadd hx hb dX10_standOf_17 ?_
    refine lv_goto (tgt := 22) hx hb dX10_standOf_18 (by decide) ?_
    exact w_X10_standOf_22 G B hz hc0 hr hlk  v0 v1 (1 + x3) _ _ _ hw (lv_sub hl [0, 1] rfl) hf
/-! SecondLife$Ways.lifeOf(I)I -/
def f_X10_lifeOf (z : Sh) (h : Hp) (v0 : Int32) : Option (Int32) :=
  (dvI v0 175).bind fun x1 =>
  some x1
set_option maxHeartbeats 4000000 in
theorem c_X10_lifeOf {l : Launch} {s0 : State} {E : Ev} (G : Gl s0 E) {z : Sh} {h : Hp} {v0 : Int32} {r : Int32} (hf : f_X10_lifeOf z h v0 = some r) : Ct l s0 E yX10_lifeOf cX10_lifeOf 1 (some .int) 0 0 [.int v0] z h h (some (.int r)) := by
  refine Ct.of G (by decide) (Nat.le_of_ble_eq_true rfl) ?_
  intro p e s m below meth c ls B hw hz hc0 hr hlk hl
  have B : Bd p s0 s E m c cX10_lifeOf 1 RX10 := B
  have hx := B.1
  have hb := B.2.1
  have hl : lv_has ls 1 [(0, .int v0)] := hl
  unfold f_X10_lifeOf at hf
  refine lv_iload_n hx hb dX10_lifeOf_0 rfl (lv_at hl 0 rfl) ?_
  refine lv_sipush (v := 175) hx hb dX10_lifeOf_1 (by decide) ?_
  obtain ⟨x1, e, hf⟩ := ob hf
  refine q_idiv e hx hb dX10_lifeOf_4 ?_
  obtain rfl := so hf
  exact q_iret B hw hz hc0 hr hlk dX10_lifeOf_5
/-! SecondLife$Ways.yearOf(I)I -/
def f_X10_yearOf (z : Sh) (h : Hp) (v0 : Int32) : Option (Int32) :=
  (dvI v0 25).bind fun x1 =>
  (rmI x1 7).bind fun x2 =>
  some x2
set_option maxHeartbeats 4000000 in
theorem c_X10_yearOf {l : Launch} {s0 : State} {E : Ev} (G : Gl s0 E) {z : Sh} {h : Hp} {v0 : Int32} {r : Int32} (hf : f_X10_yearOf z h v0 = some r) : Ct l s0 E yX10_yearOf cX10_yearOf 1 (some .int) 0 0 [.int v0] z h h (some (.int r)) := by
  refine Ct.of G (by decide) (Nat.le_of_ble_eq_true rfl) ?_
  intro p e s m below meth c ls B hw hz hc0 hr hlk hl
  have B : Bd p s0 s E m c cX10_yearOf 1 RX10 := B
  have hx := B.1
  have hb := B.2.1
  have hl : lv_has ls 1 [(0, .int v0)] := hl
  unfold f_X10_yearOf at hf
  refine lv_iload_n hx hb dX10_yearOf_0 rfl (lv_at hl 0 rfl) ?_
  refine lv_bipush (v := 25) hx hb dX10_yearOf_1 (by decide) ?_
  obtain ⟨x1, e, hf⟩ := ob hf
  refine q_idiv e hx hb dX10_yearOf_3 ?_
  refine lv_bipush (v := 7) hx hb dX10_yearOf_4 (by decide) ?_
  obtain ⟨x2, e, hf⟩ := ob hf
  refine q_irem e hx hb dX10_yearOf_6 ?_
  obtain rfl := so hf
  exact q_iret B hw hz hc0 hr hlk dX10_yearOf_7
/-! SecondLife$Ways.lastOf(I)I -/
def f_X10_lastOf (z : Sh) (h : Hp) (v0 : Int32) : Option (Int32) :=
  (rmI v0 25).bind fun x1 =>
  if x1 = 0 then
    some (9 : Int32)
  else
    (dvI (x1 - 1) 6).bind fun x3 =>
    some x3
set_option maxHeartbeats 4000000 in
theorem c_X10_lastOf {l : Launch} {s0 : State} {E : Ev} (G : Gl s0 E) {z : Sh} {h : Hp} {v0 : Int32} {r : Int32} (hf : f_X10_lastOf z h v0 = some r) : Ct l s0 E yX10_lastOf cX10_lastOf 2 (some .int) 0 0 [.int v0] z h h (some (.int r)) := by
  refine Ct.of G (by decide) (Nat.le_of_ble_eq_true rfl) ?_
  intro p e s m below meth c ls B hw hz hc0 hr hlk hl
  have B : Bd p s0 s E m c cX10_lastOf 2 RX10 := B
  have hx := B.1
  have hb := B.2.1
  have hl : lv_has ls 2 [(0, .int v0)] := hl
  unfold f_X10_lastOf at hf
  refine lv_iload_n hx hb dX10_lastOf_0 rfl (lv_at hl 0 rfl) ?_
  refine lv_bipush (v := 25) hx hb dX10_lastOf_1 (by decide) ?_
  obtain ⟨x1, e, hf⟩ := ob hf
  refine q_irem e hx hb dX10_lastOf_3 ?_
  refine lv_istore_n (lv' := [(1, .int x1), (0, .int v0)]) hx hb dX10_lastOf_4 rfl hl (by decide) rfl (fun ls hl => ?_)
  refine lv_iload_n hx hb dX10_lastOf_5 rfl (lv_at hl 0 rfl) ?_
  refine lv_if_ne (tgt := 14) hx hb dX10_lastOf_6 (by decide) (fun c2 => ?_) (fun c2 => ?_)
  · have hf := (if_neg c2).symm.trans hf
    refine lv_iload_n hx hb dX10_lastOf_14 rfl (lv_at hl 0 rfl) ?_
    refine lv_iconst (v := 1) hx hb dX10_lastOf_15 (by decide) ?_
    refine lv_isub hx hb dX10_lastOf_16 ?_
    refine lv_bipush (v := 6) hx hb dX10_lastOf_17 (by decide) ?_
    obtain ⟨x3, e, hf⟩ := ob hf
    refine q_idiv e hx hb dX10_lastOf_19 ?_
    obtain rfl := so hf
    exact q_iret B hw hz hc0 hr hlk dX10_lastOf_20
  · have hf := (if_pos c2).symm.trans hf
    refine lv_bipush (v := 9) hx hb dX10_lastOf_9 (by decide) ?_
    refine lv_goto (tgt := 20) hx hb dX10_lastOf_11 (by decide) ?_
    obtain rfl := so hf
    exact q_iret B hw hz hc0 hr hlk dX10_lastOf_20
/-! SecondLife$Ways.streakOf(I)I -/
def f_X10_streakOf (z : Sh) (h : Hp) (v0 : Int32) : Option (Int32) :=
  (rmI v0 25).bind fun x1 =>
  if x1 = 0 then
    some (0 : Int32)
  else
    (rmI (x1 - 1) 6).bind fun x3 =>
    some (x3 + 1)
set_option maxHeartbeats 4000000 in
theorem c_X10_streakOf {l : Launch} {s0 : State} {E : Ev} (G : Gl s0 E) {z : Sh} {h : Hp} {v0 : Int32} {r : Int32} (hf : f_X10_streakOf z h v0 = some r) : Ct l s0 E yX10_streakOf cX10_streakOf 2 (some .int) 0 0 [.int v0] z h h (some (.int r)) := by
  refine Ct.of G (by decide) (Nat.le_of_ble_eq_true rfl) ?_
  intro p e s m below meth c ls B hw hz hc0 hr hlk hl
  have B : Bd p s0 s E m c cX10_streakOf 2 RX10 := B
  have hx := B.1
  have hb := B.2.1
  have hl : lv_has ls 2 [(0, .int v0)] := hl
  unfold f_X10_streakOf at hf
  refine lv_iload_n hx hb dX10_streakOf_0 rfl (lv_at hl 0 rfl) ?_
  refine lv_bipush (v := 25) hx hb dX10_streakOf_1 (by decide) ?_
  obtain ⟨x1, e, hf⟩ := ob hf
  refine q_irem e hx hb dX10_streakOf_3 ?_
  refine lv_istore_n (lv' := [(1, .int x1), (0, .int v0)]) hx hb dX10_streakOf_4 rfl hl (by decide) rfl (fun ls hl => ?_)
  refine lv_iload_n hx hb dX10_streakOf_5 rfl (lv_at hl 0 rfl) ?_
  refine lv_if_ne (tgt := 13) hx hb dX10_streakOf_6 (by decide) (fun c2 => ?_) (fun c2 => ?_)
  · have hf := (if_neg c2).symm.trans hf
    refine lv_iload_n hx hb dX10_streakOf_13 rfl (lv_at hl 0 rfl) ?_
    refine lv_iconst (v := 1) hx hb dX10_streakOf_14 (by decide) ?_
    refine lv_isub hx hb dX10_streakOf_15 ?_
    refine lv_bipush (v := 6) hx hb dX10_streakOf_16 (by decide) ?_
    obtain ⟨x3, e, hf⟩ := ob hf
    refine q_irem e hx hb dX10_streakOf_18 ?_
    refine lv_iconst (v := 1) hx hb dX10_streakOf_19 (by decide) ?_
    refine lv_iadd hx hb dX10_streakOf_20 ?_
    obtain rfl := so hf
    exact q_iret B hw hz hc0 hr hlk dX10_streakOf_21
  · have hf := (if_pos c2).symm.trans hf
    refine lv_iconst (v := 0) hx hb dX10_streakOf_9 (by decide) ?_
    refine lv_goto (tgt := 21) hx hb dX10_streakOf_10 (by decide) ?_
    obtain rfl := so hf
    exact q_iret B hw hz hc0 hr hlk dX10_streakOf_21
/-! SecondLife$Ways.openTrades(I)I -/
def f_X10_openTrades (z : Sh) (h : Hp) (v0 : Nat) (v1 : Int32) : Option (Int32) :=
  if z.K v0 = 10 then
    (f_X10_yearOf z h v1).bind fun x1 =>
    (gR z h 10 v0 3).bind fun a2 =>
    (gI z h 8 a2 0).bind fun x3 =>
    if x3 ≤ x1 then
      some (0 : Int32)
    else
      (gR z h 10 v0 3).bind fun a5 =>
      (gI z h 8 a5 1).bind fun x6 =>
      some x6
  else none
theorem k_X10_openTrades {z : Sh} {h : Hp} {v0 : Nat} {v1 : Int32} {w : Int32} (hf : f_X10_openTrades z h v0 v1 = some w) : z.K v0 = 10 := by
  unfold f_X10_openTrades at hf
  exact (if_some hf).1
set_option maxHeartbeats 4000000 in
theorem c_X10_openTrades {l : Launch} {s0 : State} {E : Ev} (G : Gl s0 E) {z : Sh} {h : Hp} {v0 : Nat} {v1 : Int32} {r : Int32} (hf : f_X10_openTrades z h v0 v1 = some r) : Ct l s0 E yX10_openTrades cX10_openTrades 2 (some .int) 1 20 [.ref v0, .int v1] z h h (some (.int r)) := by
  refine Ct.of G (by decide) (Nat.le_of_ble_eq_true rfl) ?_
  intro p e s m below meth c ls B hw hz hc0 hr hlk hl
  have B : Bd p s0 s E m c cX10_openTrades 2 RX10 := B
  have hx := B.1
  have hb := B.2.1
  have hl : lv_has ls 2 [(0, .ref v0), (1, .int v1)] := hl
  unfold f_X10_openTrades at hf
  obtain ⟨_, hf⟩ := if_some hf
  refine lv_iload_n hx hb dX10_openTrades_0 rfl (lv_at hl 1 rfl) ?_
  obtain ⟨x1, e, hf⟩ := ob hf
  refine q_callS (As := [.int v1]) (rest := []) (st1 := [.int x1]) (c_X10_yearOf G e) B hw hz hc0 my_X10_yearOf mv_X10_yearOf tw_4_186 ⟨Nat.le_of_ble_eq_true rfl, Nat.le_of_ble_eq_true rfl⟩ ⟨Nat.zero_le _, Nat.zero_le _⟩ rfl hl.1 rfl rfl (Nat.le_of_ble_eq_true rfl) dX10_openTrades_1 (fun H locs hw => ?_)
  refine lv_aload_n hx hb dX10_openTrades_4 rfl (lv_at hl 0 rfl) ?_
  obtain ⟨a2, e, hf⟩ := ob hf
  refine q_getR e B hw fd_10_3.1 fd_10_3.2.1 fd_10_3.2.2.1 fd_10_3.2.2.2.1 fd_10_3.2.2.2.2 rfl tw_1_230 dX10_openTrades_5 ?_
  obtain ⟨x3, e, hf⟩ := ob hf
  refine q_getIN e B hw fd_8_0.1 fd_8_0.2.1 fd_8_0.2.2.1 fd_8_0.2.2.2.1 fd_8_0.2.2.2.2 rfl tw_1_53 dX10_openTrades_8 ?_
  refine lv_icmp_ge (tgt := 24) hx hb dX10_openTrades_11 (by decide) (fun c4 => ?_) (fun c4 => ?_)
  · have hf := (if_pos c4).symm.trans hf
    refine lv_iconst (v := 0) hx hb dX10_openTrades_24 (by decide) ?_
    obtain rfl := so hf
    exact q_iret B hw hz hc0 hr hlk dX10_openTrades_25
  · have hf := (if_neg c4).symm.trans hf
    refine lv_aload_n hx hb dX10_openTrades_14 rfl (lv_at hl 0 rfl) ?_
    obtain ⟨a5, e, hf⟩ := ob hf
    refine q_getR e B hw fd_10_3.1 fd_10_3.2.1 fd_10_3.2.2.1 fd_10_3.2.2.2.1 fd_10_3.2.2.2.2 rfl tw_1_230 dX10_openTrades_15 ?_
    obtain ⟨x6, e, hf⟩ := ob hf
    refine q_getIN e B hw fd_8_1.1 fd_8_1.2.1 fd_8_1.2.2.1 fd_8_1.2.2.2.1 fd_8_1.2.2.2.2 rfl tw_1_57 dX10_openTrades_18 ?_
    refine lv_goto (tgt := 25) hx hb dX10_openTrades_21 (by decide) ?_
    obtain rfl := so hf
    exact q_iret B hw hz hc0 hr hlk dX10_openTrades_25
/-! SecondLife$Ways.grownAt(I)I -/
def f_X10_grownAt (z : Sh) (h : Hp) (v0 : Nat) (v1 : Int32) : Option (Int32) :=
  if z.K v0 = 10 then
    if v1 < 0 then
      some (0 : Int32)
    else
      (gR z h 10 v0 2).bind fun a2 =>
      (aL z a2).bind fun x3 =>
      if x3 ≤ v1 then
        some (0 : Int32)
      else
        (gR z h 10 v0 2).bind fun a5 =>
        (ldI z h a5 v1).bind fun x6 =>
        some x6
  else none
theorem k_X10_grownAt {z : Sh} {h : Hp} {v0 : Nat} {v1 : Int32} {w : Int32} (hf : f_X10_grownAt z h v0 v1 = some w) : z.K v0 = 10 := by
  unfold f_X10_grownAt at hf
  exact (if_some hf).1
set_option maxHeartbeats 4000000 in
theorem c_X10_grownAt {l : Launch} {s0 : State} {E : Ev} (G : Gl s0 E) {z : Sh} {h : Hp} {v0 : Nat} {v1 : Int32} {r : Int32} (hf : f_X10_grownAt z h v0 v1 = some r) : Ct l s0 E yX10_grownAt cX10_grownAt 2 (some .int) 0 0 [.ref v0, .int v1] z h h (some (.int r)) := by
  refine Ct.of G (by decide) (Nat.le_of_ble_eq_true rfl) ?_
  intro p e s m below meth c ls B hw hz hc0 hr hlk hl
  have B : Bd p s0 s E m c cX10_grownAt 2 RX10 := B
  have hx := B.1
  have hb := B.2.1
  have hl : lv_has ls 2 [(0, .ref v0), (1, .int v1)] := hl
  unfold f_X10_grownAt at hf
  obtain ⟨_, hf⟩ := if_some hf
  refine lv_iload_n hx hb dX10_grownAt_0 rfl (lv_at hl 1 rfl) ?_
  refine lv_if_lt (tgt := 22) hx hb dX10_grownAt_1 (by decide) (fun c1 => ?_) (fun c1 => ?_)
  · have hf := (if_pos c1).symm.trans hf
    refine lv_iconst (v := 0) hx hb dX10_grownAt_22 (by decide) ?_
    obtain rfl := so hf
    exact q_iret B hw hz hc0 hr hlk dX10_grownAt_23
  · have hf := (if_neg c1).symm.trans hf
    refine lv_iload_n hx hb dX10_grownAt_4 rfl (lv_at hl 1 rfl) ?_
    refine lv_aload_n hx hb dX10_grownAt_5 rfl (lv_at hl 0 rfl) ?_
    obtain ⟨a2, e, hf⟩ := ob hf
    refine q_getR e B hw fd_10_2.1 fd_10_2.2.1 fd_10_2.2.2.1 fd_10_2.2.2.2.1 fd_10_2.2.2.2.2 rfl tw_1_229 dX10_grownAt_6 ?_
    obtain ⟨x3, e, hf⟩ := ob hf
    refine q_len e B hw dX10_grownAt_9 ?_
    refine lv_icmp_ge (tgt := 22) hx hb dX10_grownAt_10 (by decide) (fun c4 => ?_) (fun c4 => ?_)
    · have hf := (if_pos c4).symm.trans hf
      refine lv_iconst (v := 0) hx hb dX10_grownAt_22 (by decide) ?_
      obtain rfl := so hf
      exact q_iret B hw hz hc0 hr hlk dX10_grownAt_23
    · have hf := (if_neg c4).symm.trans hf
      refine lv_aload_n hx hb dX10_grownAt_13 rfl (lv_at hl 0 rfl) ?_
      obtain ⟨a5, e, hf⟩ := ob hf
      refine q_getR e B hw fd_10_2.1 fd_10_2.2.1 fd_10_2.2.2.1 fd_10_2.2.2.2.1 fd_10_2.2.2.2.2 rfl tw_1_229 dX10_grownAt_14 ?_
      refine lv_iload_n hx hb dX10_grownAt_17 rfl (lv_at hl 1 rfl) ?_
      obtain ⟨x6, e, hf⟩ := ob hf
      refine q_ldI e B hw dX10_grownAt_18 ?_
      refine lv_goto (tgt := 23) hx hb dX10_grownAt_19 (by decide) ?_
      obtain rfl := so hf
      exact q_iret B hw hz hc0 hr hlk dX10_grownAt_23
/-! SecondLife$Ways.turnTo(I)V -/
def f_X10_turnTo_52 (z : Sh) (h : Hp) (v2 : Int32) (v3 : Nat) (u0 : Int32) (u1 : Int32) (u2 : Nat) : Option (Hp) :=
  (stI z h u2 u1 u0).bind fun h1 =>
  if v2 = 0 then
    (stI z h1 v3 6 0).bind fun h4 =>
    some h4
  else
    (stI z h1 v3 6 (v2 - 1)).bind fun h3 =>
    some h3
def f_X10_turnTo (z : Sh) (h : Hp) (v0 : Nat) (v1 : Int32) : Option (Hp) :=
  if z.K v0 = 10 then
    (f_X10_lifeOf z h v1).bind fun x1 =>
    (gR z h 10 v0 0).bind fun a2 =>
    (gR z h 7 a2 0).bind fun a3 =>
    (gI z h 10 v0 5).bind fun x4 =>
    (stI z h a3 0 x4).bind fun h5 =>
    (f_X10_yearOf z h5 v1).bind fun x6 =>
    (stI z h5 a3 1 x6).bind fun h7 =>
    (f_X10_lastOf z h7 v1).bind fun x8 =>
    (stI z h7 a3 3 x8).bind fun h9 =>
    (f_X10_streakOf z h9 v1).bind fun x10 =>
    (stI z h9 a3 4 x10).bind fun h11 =>
    if x1 = 0 then
      f_X10_turnTo_52 z h11 x1 a3 1 5 a3
    else
      f_X10_turnTo_52 z h11 x1 a3 2 5 a3
  else none
theorem k_X10_turnTo {z : Sh} {h : Hp} {v0 : Nat} {v1 : Int32} {w : Hp} (hf : f_X10_turnTo z h v0 v1 = some w) : z.K v0 = 10 := by
  unfold f_X10_turnTo at hf
  exact (if_some hf).1
set_option maxHeartbeats 4000000 in
theorem w_X10_turnTo_52 {p : Program} {l : Launch} {e : Env} {s : State} {m : MethodId} {args : Array Value} {below : List Frame} {meth : Method} {c : Code} {s0 : State} {E : Ev} {z : Sh} {h' : Hp} (G : Gl s0 E) (B : Bd p s0 s E m c cX10_turnTo 4 RX10) (hz : s0.heap.size ≤ z.sz) (hc0 : s.heap.size + 0 = z.sz) (hr : meth.sig.returnType = none) (hlk : meth.locks = false) : ∀ (h : Hp) (v2 : Int32) (v3 : Nat) (u0 : Int32) (u1 : Int32) (u2 : Nat) (H : Heap) (locs : List Loc) (ls : Array Slot), Pw s0 s E z h H locs → lv_has ls 4 [(2, .int v2), (3, .ref v3)] → f_X10_turnTo_52 z h v2 v3 u0 u1 u2 = some h' → W p l e (rmO 1 21) s m args below meth c H locs 0 0 (Zt below s0 E z h' (none) args s 0 0) (F0 m 52 ls [.int u0, .int u1, .ref u2]) := by
  have hx := B.1
  have hb := B.2.1
  intro h v2 v3 u0 u1 u2 H locs ls hw hl hf
  unfold f_X10_turnTo_52 at hf
  obtain ⟨h1, e, hf⟩ := ob hf
  refine q_stI e B hw dX10_turnTo_52 (fun H locs hw => ?_)
  refine lv_aload_n hx hb dX10_turnTo_53 rfl (lv_at hl 1 rfl) ?_
  refine lv_bipush (v := 6) hx hb dX10_turnTo_54 (by decide) ?_
  refine lv_iload_n hx hb dX10_turnTo_56 rfl (lv_at hl 0 rfl) ?_
  refine lv_if_ne (tgt := 64) hx hb dX10_turnTo_57 (by decide) (fun c2 => ?_) (fun c2 => ?_)
  · have hf := (if_neg c2).symm.trans hf
    refine lv_iload_n hx hb dX10_turnTo_64 rfl (lv_at hl 0 rfl) ?_
    refine lv_iconst (v := 1) hx hb dX10_turnTo_65 (by decide) ?_
    refine lv_isub hx hb dX10_turnTo_66 ?_
    obtain ⟨h3, e, hf⟩ := ob hf
    refine q_stI e B hw dX10_turnTo_67 (fun H locs hw => ?_)
    obtain rfl := so hf
    exact q_vret B hw hz hc0 hr hlk dX10_turnTo_68
  · have hf := (if_pos c2).symm.trans hf
    refine lv_iconst (v := 0) hx hb dX10_turnTo_60 (by decide) ?_
    refine lv_goto (tgt := 67) hx hb dX10_turnTo_61 (by decide) ?_
    obtain ⟨h4, e, hf⟩ := ob hf
    refine q_stI e B hw dX10_turnTo_67 (fun H locs hw => ?_)
    obtain rfl := so hf
    exact q_vret B hw hz hc0 hr hlk dX10_turnTo_68
set_option maxHeartbeats 4000000 in
theorem c_X10_turnTo {l : Launch} {s0 : State} {E : Ev} (G : Gl s0 E) {z : Sh} {h : Hp} {v0 : Nat} {v1 : Int32} {h' : Hp} (hf : f_X10_turnTo z h v0 v1 = some h') : Ct l s0 E yX10_turnTo cX10_turnTo 4 none 1 21 [.ref v0, .int v1] z h h' (none) := by
  refine Ct.of G (by decide) (Nat.le_of_ble_eq_true rfl) ?_
  intro p e s m below meth c ls B hw hz hc0 hr hlk hl
  have B : Bd p s0 s E m c cX10_turnTo 4 RX10 := B
  have hx := B.1
  have hb := B.2.1
  have hl : lv_has ls 4 [(0, .ref v0), (1, .int v1)] := hl
  unfold f_X10_turnTo at hf
  obtain ⟨_, hf⟩ := if_some hf
  refine lv_iload_n hx hb dX10_turnTo_0 rfl (lv_at hl 1 rfl) ?_
  obtain ⟨x1, e, hf⟩ := ob hf
  refine q_callS (As := [.int v1]) (rest := []) (st1 := [.int x1]) (c_X10_lifeOf G e) B hw hz hc0 my_X10_lifeOf mv_X10_lifeOf tw_4_215 ⟨Nat.le_of_ble_eq_true rfl, Nat.le_of_ble_eq_true rfl⟩ ⟨Nat.zero_le _, Nat.zero_le _⟩ rfl hl.1 rfl rfl (Nat.le_of_ble_eq_true rfl) dX10_turnTo_1 (fun H locs hw => ?_)
  refine lv_istore_n (lv' := [(2, .int x1), (0, .ref v0), (1, .int v1)]) hx hb dX10_turnTo_4 rfl hl (by decide) rfl (fun ls hl => ?_)
  refine lv_aload_n hx hb dX10_turnTo_5 rfl (lv_at hl 1 rfl) ?_
  obtain ⟨a2, e, hf⟩ := ob hf
  refine q_getR e B hw fd_10_0.1 fd_10_0.2.1 fd_10_0.2.2.1 fd_10_0.2.2.2.1 fd_10_0.2.2.2.2 rfl tw_1_227 dX10_turnTo_6 ?_
  obtain ⟨a3, e, hf⟩ := ob hf
  refine q_getRN e B hw fd_7_0.1 fd_7_0.2.1 fd_7_0.2.2.1 fd_7_0.2.2.2.1 fd_7_0.2.2.2.2 rfl tw_1_193 dX10_turnTo_9 ?_
  refine lv_astore_n (lv' := [(3, .ref a3), (2, .int x1), (0, .ref v0), (1, .int v1)]) hx hb dX10_turnTo_12 rfl hl (by decide) rfl (fun ls hl => ?_)
  refine lv_aload_n hx hb dX10_turnTo_13 rfl (lv_at hl 0 rfl) ?_
  refine lv_iconst (v := 0) hx hb dX10_turnTo_14 (by decide) ?_
  refine lv_aload_n hx hb dX10_turnTo_15 rfl (lv_at hl 2 rfl) ?_
  obtain ⟨x4, e, hf⟩ := ob hf
  refine q_getI e B hw fd_10_5.1 fd_10_5.2.1 fd_10_5.2.2.1 fd_10_5.2.2.2.1 fd_10_5.2.2.2.2 rfl tw_1_234 dX10_turnTo_16 ?_
  obtain ⟨h5, e, hf⟩ := ob hf
  refine q_stI e B hw dX10_turnTo_19 (fun H locs hw => ?_)
  refine lv_aload_n hx hb dX10_turnTo_20 rfl (lv_at hl 0 rfl) ?_
  refine lv_iconst (v := 1) hx hb dX10_turnTo_21 (by decide) ?_
  refine lv_iload_n hx hb dX10_turnTo_22 rfl (lv_at hl 3 rfl) ?_
  obtain ⟨x6, e, hf⟩ := ob hf
  refine q_callS (As := [.int v1]) (rest := [.int 1, .ref a3]) (st1 := [.int x6, .int 1, .ref a3]) (c_X10_yearOf G e) B hw hz hc0 my_X10_yearOf mv_X10_yearOf tw_4_186 ⟨Nat.le_of_ble_eq_true rfl, Nat.le_of_ble_eq_true rfl⟩ ⟨Nat.zero_le _, Nat.zero_le _⟩ rfl hl.1 rfl rfl (Nat.le_of_ble_eq_true rfl) dX10_turnTo_23 (fun H locs hw => ?_)
  obtain ⟨h7, e, hf⟩ := ob hf
  refine q_stI e B hw dX10_turnTo_26 (fun H locs hw => ?_)
  refine lv_aload_n hx hb dX10_turnTo_27 rfl (lv_at hl 0 rfl) ?_
  refine lv_iconst (v := 3) hx hb dX10_turnTo_28 (by decide) ?_
  refine lv_iload_n hx hb dX10_turnTo_29 rfl (lv_at hl 3 rfl) ?_
  obtain ⟨x8, e, hf⟩ := ob hf
  refine q_callS (As := [.int v1]) (rest := [.int 3, .ref a3]) (st1 := [.int x8, .int 3, .ref a3]) (c_X10_lastOf G e) B hw hz hc0 my_X10_lastOf mv_X10_lastOf tw_4_193 ⟨Nat.le_of_ble_eq_true rfl, Nat.le_of_ble_eq_true rfl⟩ ⟨Nat.zero_le _, Nat.zero_le _⟩ rfl hl.1 rfl rfl (Nat.le_of_ble_eq_true rfl) dX10_turnTo_30 (fun H locs hw => ?_)
  obtain ⟨h9, e, hf⟩ := ob hf
  refine q_stI e B hw dX10_turnTo_33 (fun H locs hw => ?_)
  refine lv_aload_n hx hb dX10_turnTo_34 rfl (lv_at hl 0 rfl) ?_
  refine lv_iconst (v := 4) hx hb dX10_turnTo_35 (by decide) ?_
  refine lv_iload_n hx hb dX10_turnTo_36 rfl (lv_at hl 3 rfl) ?_
  obtain ⟨x10, e, hf⟩ := ob hf
  refine q_callS (As := [.int v1]) (rest := [.int 4, .ref a3]) (st1 := [.int x10, .int 4, .ref a3]) (c_X10_streakOf G e) B hw hz hc0 my_X10_streakOf mv_X10_streakOf tw_4_196 ⟨Nat.le_of_ble_eq_true rfl, Nat.le_of_ble_eq_true rfl⟩ ⟨Nat.zero_le _, Nat.zero_le _⟩ rfl hl.1 rfl rfl (Nat.le_of_ble_eq_true rfl) dX10_turnTo_37 (fun H locs hw => ?_)
  obtain ⟨h11, e, hf⟩ := ob hf
  refine q_stI e B hw dX10_turnTo_40 (fun H locs hw => ?_)
  refine lv_aload_n hx hb dX10_turnTo_41 rfl (lv_at hl 0 rfl) ?_
  refine lv_iconst (v := 5) hx hb dX10_turnTo_42 (by decide) ?_
  refine lv_iload_n hx hb dX10_turnTo_43 rfl (lv_at hl 1 rfl) ?_
  refine lv_if_ne (tgt := 51) hx hb dX10_turnTo_44 (by decide) (fun c12 => ?_) (fun c12 => ?_)
  · have hf := (if_neg c12).symm.trans hf
    refine lv_iconst (v := 2) hx hb dX10_turnTo_51 (by decide) ?_
    exact w_X10_turnTo_52 G B hz hc0 hr hlk  h11 x1 a3 2 5 a3 _ _ _ hw (lv_sub hl [1, 0] rfl) hf
  · have hf := (if_pos c12).symm.trans hf
    refine lv_iconst (v := 1) hx hb dX10_turnTo_47 (by decide) ?_
    refine lv_goto (tgt := 52) hx hb dX10_turnTo_48 (by decide) ?_
    exact w_X10_turnTo_52 G B hz hc0 hr hlk  h11 x1 a3 1 5 a3 _ _ _ hw (lv_sub hl [1, 0] rfl) hf
/-! java/lang/Character.isValidCodePoint(I)Z -/
def f_J11_isValidCodePoint_9a6ad (z : Sh) (h : Hp) (v0 : Int32) : Option (Int32) :=
  (some ((Int32.toUInt32 v0 >>> (Int32.toUInt32 16 &&& Int32.toUInt32 31)).toInt32)).bind fun x1 =>
  if 17 ≤ x1 then
    some 0
  else
    some 1
set_option maxHeartbeats 4000000 in
theorem c_J11_isValidCodePoint_9a6ad {l : Launch} {s0 : State} {E : Ev} (G : Gl s0 E) {z : Sh} {h : Hp} {v0 : Int32} {r : Int32} (hf : f_J11_isValidCodePoint_9a6ad z h v0 = some r) : Ct l s0 E yJ11_isValidCodePoint_9a6ad cJ11_isValidCodePoint_9a6ad 2 (some .boolean) 0 0 [.int v0] z h h (some (.int r)) := by
  refine Ct.ofF G (by decide +kernel) (Nat.le_of_ble_eq_true rfl) ?_
  intro p e s m below meth c ls B hw hz hc0 hr hlk hl
  have B : Bd p s0 s E m c cJ11_isValidCodePoint_9a6ad 2 RJ11 := B
  have hx := B.1
  have hb := B.2.1
  have hl : lv_has ls 2 [(0, .int v0)] := hl
  unfold f_J11_isValidCodePoint_9a6ad at hf
  refine lv_iload_n hx hb dJ11_isValidCodePoint_9a6ad_0 rfl (lv_at hl 0 rfl) ?_
  refine lv_bipush (v := 16) hx hb dJ11_isValidCodePoint_9a6ad_1 (by decide) ?_
  refine lv_iushr (v := (Int32.toUInt32 v0 >>> (Int32.toUInt32 16 &&& Int32.toUInt32 31)).toInt32) hx hb dJ11_isValidCodePoint_9a6ad_3 rfl ?_
  obtain ⟨x1, e, hf⟩ := ob hf
  refine q_nmI e ?_
  refine lv_istore_n (lv' := [(1, .int x1), (0, .int v0)]) hx hb dJ11_isValidCodePoint_9a6ad_4 rfl hl (by decide) rfl (fun ls hl => ?_)
  refine lv_iload_n hx hb dJ11_isValidCodePoint_9a6ad_5 rfl (lv_at hl 0 rfl) ?_
  refine lv_bipush (v := 17) hx hb dJ11_isValidCodePoint_9a6ad_6 (by decide) ?_
  refine lv_icmp_ge (tgt := 15) hx hb dJ11_isValidCodePoint_9a6ad_8 (by decide) (fun c2 => ?_) (fun c2 => ?_)
  · have hf := (if_pos c2).symm.trans hf
    refine lv_iconst (v := 0) hx hb dJ11_isValidCodePoint_9a6ad_15 (by decide) ?_
    obtain rfl := so hf
    exact q_zret (Or.inl rfl) B hw hz hc0 hr hlk dJ11_isValidCodePoint_9a6ad_16
  · have hf := (if_neg c2).symm.trans hf
    refine lv_iconst (v := 1) hx hb dJ11_isValidCodePoint_9a6ad_11 (by decide) ?_
    refine lv_goto (tgt := 16) hx hb dJ11_isValidCodePoint_9a6ad_12 (by decide) ?_
    obtain rfl := so hf
    exact q_zret (Or.inr rfl) B hw hz hc0 hr hlk dJ11_isValidCodePoint_9a6ad_16
/-! java/lang/Character.highSurrogate(I)C -/
def f_J11_highSurrogate_5068e (z : Sh) (h : Hp) (v0 : Int32) : Option (Int32) :=
  bc ((Int32.toUInt32 (((Int32.toUInt32 v0 >>> (Int32.toUInt32 10 &&& Int32.toUInt32 31)).toInt32) + 55232) % 65536).toInt32)
set_option maxHeartbeats 4000000 in
theorem c_J11_highSurrogate_5068e {l : Launch} {s0 : State} {E : Ev} (G : Gl s0 E) {z : Sh} {h : Hp} {v0 : Int32} {r : Option Nat} (hf : f_J11_highSurrogate_5068e z h v0 = some r) : Ct l s0 E yJ11_highSurrogate_5068e cJ11_highSurrogate_5068e 1 (some .char) 0 0 [.int v0] z h h (some (va_rf r)) := by
  refine Ct.ofF G (by decide +kernel) (Nat.le_of_ble_eq_true rfl) ?_
  intro p e s m below meth c ls B hw hz hc0 hr hlk hl
  have B : Bd p s0 s E m c cJ11_highSurrogate_5068e 1 RJ11 := B
  have hx := B.1
  have hb := B.2.1
  have hl : lv_has ls 1 [(0, .int v0)] := hl
  unfold f_J11_highSurrogate_5068e at hf
  refine lv_iload_n hx hb dJ11_highSurrogate_5068e_0 rfl (lv_at hl 0 rfl) ?_
  refine lv_bipush (v := 10) hx hb dJ11_highSurrogate_5068e_1 (by decide) ?_
  refine lv_iushr (v := (Int32.toUInt32 v0 >>> (Int32.toUInt32 10 &&& Int32.toUInt32 31)).toInt32) hx hb dJ11_highSurrogate_5068e_3 rfl ?_
  refine lv_ldc hx hb B.2.2.2.1 (B.w tw_3_32 rfl) dJ11_highSurrogate_5068e_4 ?_
  refine lv_iadd hx hb dJ11_highSurrogate_5068e_6 ?_
  refine lv_i2c (v := ((Int32.toUInt32 (((Int32.toUInt32 v0 >>> (Int32.toUInt32 10 &&& Int32.toUInt32 31)).toInt32) + 55232) % 65536).toInt32)) hx hb dJ11_highSurrogate_5068e_7 rfl ?_
  obtain ⟨e1, e⟩ := if_some hf
  cases e
  exact q_cret e1 B hw hz hc0 hr hlk dJ11_highSurrogate_5068e_8
/-! java/lang/Character.lowSurrogate(I)C -/
def f_J11_lowSurrogate_5068e (z : Sh) (h : Hp) (v0 : Int32) : Option (Int32) :=
  bc ((Int32.toUInt32 ((v0 &&& 1023) + 56320) % 65536).toInt32)
set_option maxHeartbeats 4000000 in
theorem c_J11_lowSurrogate_5068e {l : Launch} {s0 : State} {E : Ev} (G : Gl s0 E) {z : Sh} {h : Hp} {v0 : Int32} {r : Option Nat} (hf : f_J11_lowSurrogate_5068e z h v0 = some r) : Ct l s0 E yJ11_lowSurrogate_5068e cJ11_lowSurrogate_5068e 1 (some .char) 0 0 [.int v0] z h h (some (va_rf r)) := by
  refine Ct.ofF G (by decide +kernel) (Nat.le_of_ble_eq_true rfl) ?_
  intro p e s m below meth c ls B hw hz hc0 hr hlk hl
  have B : Bd p s0 s E m c cJ11_lowSurrogate_5068e 1 RJ11 := B
  have hx := B.1
  have hb := B.2.1
  have hl : lv_has ls 1 [(0, .int v0)] := hl
  unfold f_J11_lowSurrogate_5068e at hf
  refine lv_iload_n hx hb dJ11_lowSurrogate_5068e_0 rfl (lv_at hl 0 rfl) ?_
  refine lv_sipush (v := 1023) hx hb dJ11_lowSurrogate_5068e_1 (by decide) ?_
  refine lv_iand hx hb dJ11_lowSurrogate_5068e_4 ?_
  refine lv_ldc hx hb B.2.2.2.1 (B.w tw_3_36 rfl) dJ11_lowSurrogate_5068e_5 ?_
  refine lv_iadd hx hb dJ11_lowSurrogate_5068e_7 ?_
  refine lv_i2c (v := ((Int32.toUInt32 ((v0 &&& 1023) + 56320) % 65536).toInt32)) hx hb dJ11_lowSurrogate_5068e_8 rfl ?_
  obtain ⟨e1, e⟩ := if_some hf
  cases e
  exact q_cret e1 B hw hz hc0 hr hlk dJ11_lowSurrogate_5068e_9
/-! java/lang/Integer.bitCount(I)I -/
def f_J6_bitCount_0f7a4 (z : Sh) (h : Hp) (v0 : Int32) : Option (Int32) :=
  (some (v0 - (((Int32.toUInt32 v0 >>> (Int32.toUInt32 1 &&& Int32.toUInt32 31)).toInt32) &&& 1431655765))).bind fun x1 =>
  (some ((x1 &&& 858993459) + (((Int32.toUInt32 x1 >>> (Int32.toUInt32 2 &&& Int32.toUInt32 31)).toInt32) &&& 858993459))).bind fun x2 =>
  (some ((x2 + ((Int32.toUInt32 x2 >>> (Int32.toUInt32 4 &&& Int32.toUInt32 31)).toInt32)) &&& 252645135)).bind fun x3 =>
  (some (x3 + ((Int32.toUInt32 x3 >>> (Int32.toUInt32 8 &&& Int32.toUInt32 31)).toInt32))).bind fun x4 =>
  (some (x4 + ((Int32.toUInt32 x4 >>> (Int32.toUInt32 16 &&& Int32.toUInt32 31)).toInt32))).bind fun x5 =>
  some (x5 &&& 63)
set_option maxHeartbeats 4000000 in
theorem c_J6_bitCount_0f7a4 {l : Launch} {s0 : State} {E : Ev} (G : Gl s0 E) {z : Sh} {h : Hp} {v0 : Int32} {r : Int32} (hf : f_J6_bitCount_0f7a4 z h v0 = some r) : Ct l s0 E yJ6_bitCount_0f7a4 cJ6_bitCount_0f7a4 1 (some .int) 0 0 [.int v0] z h h (some (.int r)) := by
  refine Ct.ofF G (by decide +kernel) (Nat.le_of_ble_eq_true rfl) ?_
  intro p e s m below meth c ls B hw hz hc0 hr hlk hl
  have B : Bd p s0 s E m c cJ6_bitCount_0f7a4 1 RJ6 := B
  have hx := B.1
  have hb := B.2.1
  have hl : lv_has ls 1 [(0, .int v0)] := hl
  unfold f_J6_bitCount_0f7a4 at hf
  refine lv_iload_n hx hb dJ6_bitCount_0f7a4_0 rfl (lv_at hl 0 rfl) ?_
  refine lv_iload_n hx hb dJ6_bitCount_0f7a4_1 rfl (lv_at hl 0 rfl) ?_
  refine lv_iconst (v := 1) hx hb dJ6_bitCount_0f7a4_2 (by decide) ?_
  refine lv_iushr (v := (Int32.toUInt32 v0 >>> (Int32.toUInt32 1 &&& Int32.toUInt32 31)).toInt32) hx hb dJ6_bitCount_0f7a4_3 rfl ?_
  refine lv_ldcw hx hb B.2.2.2.1 (B.w tw_5_196 rfl) dJ6_bitCount_0f7a4_4 ?_
  refine lv_iand hx hb dJ6_bitCount_0f7a4_7 ?_
  refine lv_isub hx hb dJ6_bitCount_0f7a4_8 ?_
  obtain ⟨x1, e, hf⟩ := ob hf
  refine q_nmI e ?_
  refine lv_istore_n (lv' := [(0, .int x1)]) hx hb dJ6_bitCount_0f7a4_9 rfl hl (by decide) rfl (fun ls hl => ?_)
  refine lv_iload_n hx hb dJ6_bitCount_0f7a4_10 rfl (lv_at hl 0 rfl) ?_
  refine lv_ldcw hx hb B.2.2.2.1 (B.w tw_5_197 rfl) dJ6_bitCount_0f7a4_11 ?_
  refine lv_iand hx hb dJ6_bitCount_0f7a4_14 ?_
  refine lv_iload_n hx hb dJ6_bitCount_0f7a4_15 rfl (lv_at hl 0 rfl) ?_
  refine lv_iconst (v := 2) hx hb dJ6_bitCount_0f7a4_16 (by decide) ?_
  refine lv_iushr (v := (Int32.toUInt32 x1 >>> (Int32.toUInt32 2 &&& Int32.toUInt32 31)).toInt32) hx hb dJ6_bitCount_0f7a4_17 rfl ?_
  refine lv_ldcw hx hb B.2.2.2.1 (B.w tw_5_197 rfl) dJ6_bitCount_0f7a4_18 ?_
  refine lv_iand hx hb dJ6_bitCount_0f7a4_21 ?_
  refine lv_iadd hx hb dJ6_bitCount_0f7a4_22 ?_
  obtain ⟨x2, e, hf⟩ := ob hf
  refine q_nmI e ?_
  refine lv_istore_n (lv' := [(0, .int x2)]) hx hb dJ6_bitCount_0f7a4_23 rfl hl (by decide) rfl (fun ls hl => ?_)
  refine lv_iload_n hx hb dJ6_bitCount_0f7a4_24 rfl (lv_at hl 0 rfl) ?_
  refine lv_iload_n hx hb dJ6_bitCount_0f7a4_25 rfl (lv_at hl 0 rfl) ?_
  refine lv_iconst (v := 4) hx hb dJ6_bitCount_0f7a4_26 (by decide) ?_
  refine lv_iushr (v := (Int32.toUInt32 x2 >>> (Int32.toUInt32 4 &&& Int32.toUInt32 31)).toInt32) hx hb dJ6_bitCount_0f7a4_27 rfl ?_
  refine lv_iadd hx hb dJ6_bitCount_0f7a4_28 ?_
  refine lv_ldcw hx hb B.2.2.2.1 (B.w tw_5_198 rfl) dJ6_bitCount_0f7a4_29 ?_
  refine lv_iand hx hb dJ6_bitCount_0f7a4_32 ?_
  obtain ⟨x3, e, hf⟩ := ob hf
  refine q_nmI e ?_
  refine lv_istore_n (lv' := [(0, .int x3)]) hx hb dJ6_bitCount_0f7a4_33 rfl hl (by decide) rfl (fun ls hl => ?_)
  refine lv_iload_n hx hb dJ6_bitCount_0f7a4_34 rfl (lv_at hl 0 rfl) ?_
  refine lv_iload_n hx hb dJ6_bitCount_0f7a4_35 rfl (lv_at hl 0 rfl) ?_
  refine lv_bipush (v := 8) hx hb dJ6_bitCount_0f7a4_36 (by decide) ?_
  refine lv_iushr (v := (Int32.toUInt32 x3 >>> (Int32.toUInt32 8 &&& Int32.toUInt32 31)).toInt32) hx hb dJ6_bitCount_0f7a4_38 rfl ?_
  refine lv_iadd hx hb dJ6_bitCount_0f7a4_39 ?_
  obtain ⟨x4, e, hf⟩ := ob hf
  refine q_nmI e ?_
  refine lv_istore_n (lv' := [(0, .int x4)]) hx hb dJ6_bitCount_0f7a4_40 rfl hl (by decide) rfl (fun ls hl => ?_)
  refine lv_iload_n hx hb dJ6_bitCount_0f7a4_41 rfl (lv_at hl 0 rfl) ?_
  refine lv_iload_n hx hb dJ6_bitCount_0f7a4_42 rfl (lv_at hl 0 rfl) ?_
  refine lv_bipush (v := 16) hx hb dJ6_bitCount_0f7a4_43 (by decide) ?_
  refine lv_iushr (v := (Int32.toUInt32 x4 >>> (Int32.toUInt32 16 &&& Int32.toUInt32 31)).toInt32) hx hb dJ6_bitCount_0f7a4_45 rfl ?_
  refine lv_iadd hx hb dJ6_bitCount_0f7a4_46 ?_
  obtain ⟨x5, e, hf⟩ := ob hf
  refine q_nmI e ?_
  refine lv_istore_n (lv' := [(0, .int x5)]) hx hb dJ6_bitCount_0f7a4_47 rfl hl (by decide) rfl (fun ls hl => ?_)
  refine lv_iload_n hx hb dJ6_bitCount_0f7a4_48 rfl (lv_at hl 0 rfl) ?_
  refine lv_bipush (v := 63) hx hb dJ6_bitCount_0f7a4_49 (by decide) ?_
  refine lv_iand hx hb dJ6_bitCount_0f7a4_51 ?_
  obtain rfl := so hf
  exact q_iret B hw hz hc0 hr hlk dJ6_bitCount_0f7a4_52
/-! java/lang/Math.floorMod(II)I -/
def f_J9_floorMod_7cf53 (z : Sh) (h : Hp) (v0 : Int32) (v1 : Int32) : Option (Int32) :=
  (rmI v0 v1).bind fun x1 =>
  if 0 ≤ (v0 ^^^ v1) then
    some x1
  else
    if x1 = 0 then
      some x1
    else
      some (x1 + v1)
set_option maxHeartbeats 4000000 in
theorem c_J9_floorMod_7cf53 {l : Launch} {s0 : State} {E : Ev} (G : Gl s0 E) {z : Sh} {h : Hp} {v0 : Int32} {v1 : Int32} {r : Int32} (hf : f_J9_floorMod_7cf53 z h v0 v1 = some r) : Ct l s0 E yJ9_floorMod_7cf53 cJ9_floorMod_7cf53 3 (some .int) 0 0 [.int v0, .int v1] z h h (some (.int r)) := by
  refine Ct.ofF G (by decide +kernel) (Nat.le_of_ble_eq_true rfl) ?_
  intro p e s m below meth c ls B hw hz hc0 hr hlk hl
  have B : Bd p s0 s E m c cJ9_floorMod_7cf53 3 RJ9 := B
  have hx := B.1
  have hb := B.2.1
  have hl : lv_has ls 3 [(0, .int v0), (1, .int v1)] := hl
  unfold f_J9_floorMod_7cf53 at hf
  refine lv_iload_n hx hb dJ9_floorMod_7cf53_0 rfl (lv_at hl 0 rfl) ?_
  refine lv_iload_n hx hb dJ9_floorMod_7cf53_1 rfl (lv_at hl 1 rfl) ?_
  obtain ⟨x1, e, hf⟩ := ob hf
  refine q_irem e hx hb dJ9_floorMod_7cf53_2 ?_
  refine lv_istore_n (lv' := [(2, .int x1), (0, .int v0), (1, .int v1)]) hx hb dJ9_floorMod_7cf53_3 rfl hl (by decide) rfl (fun ls hl => ?_)
  refine lv_iload_n hx hb dJ9_floorMod_7cf53_4 rfl (lv_at hl 1 rfl) ?_
  refine lv_iload_n hx hb dJ9_floorMod_7cf53_5 rfl (lv_at hl 2 rfl) ?_
  refine lv_ixor hx hb dJ9_floorMod_7cf53_6 ?_
  refine lv_if_ge (tgt := 18) hx hb dJ9_floorMod_7cf53_7 (by decide) (fun c2 => ?_) (fun c2 => ?_)
  · have hf := (if_pos c2).symm.trans hf
    refine lv_iload_n hx hb dJ9_floorMod_7cf53_18 rfl (lv_at hl 0 rfl) ?_
    obtain rfl := so hf
    exact q_iret B hw hz hc0 hr hlk dJ9_floorMod_7cf53_19
  · have hf := (if_neg c2).symm.trans hf
    refine lv_iload_n hx hb dJ9_floorMod_7cf53_10 rfl (lv_at hl 0 rfl) ?_
    refine lv_if_eq (tgt := 18) hx hb dJ9_floorMod_7cf53_11 (by decide) (fun c3 => ?_) (fun c3 => ?_)
    · have hf := (if_pos c3).symm.trans hf
      refine lv_iload_n hx hb dJ9_floorMod_7cf53_18 rfl (lv_at hl 0 rfl) ?_
      obtain rfl := so hf
      exact q_iret B hw hz hc0 hr hlk dJ9_floorMod_7cf53_19
    · have hf := (if_neg c3).symm.trans hf
      refine lv_iload_n hx hb dJ9_floorMod_7cf53_14 rfl (lv_at hl 0 rfl) ?_
      refine lv_iload_n hx hb dJ9_floorMod_7cf53_15 rfl (lv_at hl 2 rfl) ?_
      refine lv_iadd hx hb dJ9_floorMod_7cf53_16 ?_
      obtain rfl := so hf
      exact q_iret B hw hz hc0 hr hlk dJ9_floorMod_7cf53_17
/-! java/lang/Math.max(II)I -/
def f_J9_max_7cf53 (z : Sh) (h : Hp) (v0 : Int32) (v1 : Int32) : Option (Int32) :=
  if v0 < v1 then
    some v1
  else
    some v0
set_option maxHeartbeats 4000000 in
theorem c_J9_max_7cf53 {l : Launch} {s0 : State} {E : Ev} (G : Gl s0 E) {z : Sh} {h : Hp} {v0 : Int32} {v1 : Int32} {r : Int32} (hf : f_J9_max_7cf53 z h v0 v1 = some r) : Ct l s0 E yJ9_max_7cf53 cJ9_max_7cf53 2 (some .int) 0 0 [.int v0, .int v1] z h h (some (.int r)) := by
  refine Ct.ofF G (by decide +kernel) (Nat.le_of_ble_eq_true rfl) ?_
  intro p e s m below meth c ls B hw hz hc0 hr hlk hl
  have B : Bd p s0 s E m c cJ9_max_7cf53 2 RJ9 := B
  have hx := B.1
  have hb := B.2.1
  have hl : lv_has ls 2 [(0, .int v0), (1, .int v1)] := hl
  unfold f_J9_max_7cf53 at hf
  refine lv_iload_n hx hb dJ9_max_7cf53_0 rfl (lv_at hl 0 rfl) ?_
  refine lv_iload_n hx hb dJ9_max_7cf53_1 rfl (lv_at hl 1 rfl) ?_
  refine lv_icmp_lt (tgt := 9) hx hb dJ9_max_7cf53_2 (by decide) (fun c1 => ?_) (fun c1 => ?_)
  · have hf := (if_pos c1).symm.trans hf
    refine lv_iload_n hx hb dJ9_max_7cf53_9 rfl (lv_at hl 1 rfl) ?_
    obtain rfl := so hf
    exact q_iret B hw hz hc0 hr hlk dJ9_max_7cf53_10
  · have hf := (if_neg c1).symm.trans hf
    refine lv_iload_n hx hb dJ9_max_7cf53_5 rfl (lv_at hl 0 rfl) ?_
    refine lv_goto (tgt := 10) hx hb dJ9_max_7cf53_6 (by decide) ?_
    obtain rfl := so hf
    exact q_iret B hw hz hc0 hr hlk dJ9_max_7cf53_10
/-! java/lang/Math.max(JJ)J -/
def f_J9_max_f86c9 (z : Sh) (h : Hp) (v0 : Int64) (v2 : Int64) : Option (Int64) :=
  if (lg_cmp v0 v2) < 0 then
    some v2
  else
    some v0
set_option maxHeartbeats 4000000 in
theorem c_J9_max_f86c9 {l : Launch} {s0 : State} {E : Ev} (G : Gl s0 E) {z : Sh} {h : Hp} {v0 : Int64} {v2 : Int64} {r : Int64} (hf : f_J9_max_f86c9 z h v0 v2 = some r) : Ct l s0 E yJ9_max_f86c9 cJ9_max_f86c9 4 (some .long) 0 0 [.long v0, .long v2] z h h (some (.long r)) := by
  refine Ct.ofF G (by decide +kernel) (Nat.le_of_ble_eq_true rfl) ?_
  intro p e s m below meth c ls B hw hz hc0 hr hlk hl
  have B : Bd p s0 s E m c cJ9_max_f86c9 4 RJ9 := B
  have hx := B.1
  have hb := B.2.1
  have hl : lv_has ls 4 [(0, .long v0), (2, .long v2)] := hl
  unfold f_J9_max_f86c9 at hf
  refine lv_lload_n hx hb dJ9_max_f86c9_0 rfl (lv_at hl 0 rfl) ?_
  refine lv_lload_n hx hb dJ9_max_f86c9_1 rfl (lv_at hl 1 rfl) ?_
  refine W.lcmp hx hb dJ9_max_f86c9_2 ?_
  refine lv_if_lt (tgt := 10) hx hb dJ9_max_f86c9_3 (by decide) (fun c1 => ?_) (fun c1 => ?_)
  · have hf := (if_pos c1).symm.trans hf
    refine lv_lload_n hx hb dJ9_max_f86c9_10 rfl (lv_at hl 1 rfl) ?_
    obtain rfl := so hf
    exact q_lret B hw hz hc0 hr hlk dJ9_max_f86c9_11
  · have hf := (if_neg c1).symm.trans hf
    refine lv_lload_n hx hb dJ9_max_f86c9_6 rfl (lv_at hl 0 rfl) ?_
    refine lv_goto (tgt := 11) hx hb dJ9_max_f86c9_7 (by decide) ?_
    obtain rfl := so hf
    exact q_lret B hw hz hc0 hr hlk dJ9_max_f86c9_11
/-! java/lang/Math.min(II)I -/
def f_J9_min_7cf53 (z : Sh) (h : Hp) (v0 : Int32) (v1 : Int32) : Option (Int32) :=
  if v1 < v0 then
    some v1
  else
    some v0
set_option maxHeartbeats 4000000 in
theorem c_J9_min_7cf53 {l : Launch} {s0 : State} {E : Ev} (G : Gl s0 E) {z : Sh} {h : Hp} {v0 : Int32} {v1 : Int32} {r : Int32} (hf : f_J9_min_7cf53 z h v0 v1 = some r) : Ct l s0 E yJ9_min_7cf53 cJ9_min_7cf53 2 (some .int) 0 0 [.int v0, .int v1] z h h (some (.int r)) := by
  refine Ct.ofF G (by decide +kernel) (Nat.le_of_ble_eq_true rfl) ?_
  intro p e s m below meth c ls B hw hz hc0 hr hlk hl
  have B : Bd p s0 s E m c cJ9_min_7cf53 2 RJ9 := B
  have hx := B.1
  have hb := B.2.1
  have hl : lv_has ls 2 [(0, .int v0), (1, .int v1)] := hl
  unfold f_J9_min_7cf53 at hf
  refine lv_iload_n hx hb dJ9_min_7cf53_0 rfl (lv_at hl 0 rfl) ?_
  refine lv_iload_n hx hb dJ9_min_7cf53_1 rfl (lv_at hl 1 rfl) ?_
  refine lv_icmp_gt (tgt := 9) hx hb dJ9_min_7cf53_2 (by decide) (fun c1 => ?_) (fun c1 => ?_)
  · have hf := (if_pos c1).symm.trans hf
    refine lv_iload_n hx hb dJ9_min_7cf53_9 rfl (lv_at hl 1 rfl) ?_
    obtain rfl := so hf
    exact q_iret B hw hz hc0 hr hlk dJ9_min_7cf53_10
  · have hf := (if_neg c1).symm.trans hf
    refine lv_iload_n hx hb dJ9_min_7cf53_5 rfl (lv_at hl 0 rfl) ?_
    refine lv_goto (tgt := 10) hx hb dJ9_min_7cf53_6 (by decide) ?_
    obtain rfl := so hf
    exact q_iret B hw hz hc0 hr hlk dJ9_min_7cf53_10
/-! java/lang/String.coder()B -/
def f_J0_coder_7d493 (z : Sh) (h : Hp) (v0 : Nat) : Option (Int32) :=
  if z.K v0 = 36 then
    if (1 : Int32) = 0 then
      bz 1
    else
      (gSC z v0).bind fun x2 =>
      bz x2
  else none
theorem k_J0_coder_7d493 {z : Sh} {h : Hp} {v0 : Nat} {w : Int32} (hf : f_J0_coder_7d493 z h v0 = some w) : z.K v0 = 36 := by
  unfold f_J0_coder_7d493 at hf
  exact (if_some hf).1
set_option maxHeartbeats 4000000 in
theorem c_J0_coder_7d493 {l : Launch} {s0 : State} {E : Ev} (G : Gl s0 E) {z : Sh} {h : Hp} {v0 : Nat} {r : Option Nat} (hf : f_J0_coder_7d493 z h v0 = some r) : Ct l s0 E yJ0_coder_7d493 cJ0_coder_7d493 1 (some .byte) 0 0 [.ref v0] z h h (some (va_rf r)) := by
  refine Ct.ofF G (by decide +kernel) (Nat.le_of_ble_eq_true rfl) ?_
  intro p e s m below meth c ls B hw hz hc0 hr hlk hl
  have B : Bd p s0 s E m c cJ0_coder_7d493 1 RJ0 := B
  have hx := B.1
  have hb := B.2.1
  have hl : lv_has ls 1 [(0, .ref v0)] := hl
  unfold f_J0_coder_7d493 at hf
  obtain ⟨_, hf⟩ := if_some hf
  refine q_gsI G.2.2.2.2.2.1 B hw rfl tw_2_205 dJ0_coder_7d493_0 ?_
  refine lv_if_eq (tgt := 13) hx hb dJ0_coder_7d493_3 (by decide) (fun c1 => ?_) (fun c1 => ?_)
  · have hf := (if_pos c1).symm.trans hf
    refine lv_iconst (v := 1) hx hb dJ0_coder_7d493_13 (by decide) ?_
    obtain ⟨e1, e⟩ := if_some hf
    cases e
    exact q_bret e1 B hw hz hc0 hr hlk dJ0_coder_7d493_14
  · have hf := (if_neg c1).symm.trans hf
    refine lv_aload_n hx hb dJ0_coder_7d493_6 rfl (lv_at hl 0 rfl) ?_
    obtain ⟨x2, e, hf⟩ := ob hf
    refine q_gSC e B hw rfl tw_8_215 dJ0_coder_7d493_7 ?_
    refine lv_goto (tgt := 14) hx hb dJ0_coder_7d493_10 (by decide) ?_
    obtain ⟨e1, e⟩ := if_some hf
    cases e
    exact q_bret e1 B hw hz hc0 hr hlk dJ0_coder_7d493_14
/-! java/lang/String.isLatin1()Z -/
def f_J0_isLatin1_aae02 (z : Sh) (h : Hp) (v0 : Nat) : Option (Int32) :=
  if z.K v0 = 36 then
    if (1 : Int32) = 0 then
      some 0
    else
      (gSC z v0).bind fun x2 =>
      if x2 = 0 then
        some 1
      else
        some 0
  else none
theorem k_J0_isLatin1_aae02 {z : Sh} {h : Hp} {v0 : Nat} {w : Int32} (hf : f_J0_isLatin1_aae02 z h v0 = some w) : z.K v0 = 36 := by
  unfold f_J0_isLatin1_aae02 at hf
  exact (if_some hf).1
set_option maxHeartbeats 4000000 in
theorem c_J0_isLatin1_aae02 {l : Launch} {s0 : State} {E : Ev} (G : Gl s0 E) {z : Sh} {h : Hp} {v0 : Nat} {r : Int32} (hf : f_J0_isLatin1_aae02 z h v0 = some r) : Ct l s0 E yJ0_isLatin1_aae02 cJ0_isLatin1_aae02 1 (some .boolean) 0 0 [.ref v0] z h h (some (.int r)) := by
  refine Ct.ofF G (by decide +kernel) (Nat.le_of_ble_eq_true rfl) ?_
  intro p e s m below meth c ls B hw hz hc0 hr hlk hl
  have B : Bd p s0 s E m c cJ0_isLatin1_aae02 1 RJ0 := B
  have hx := B.1
  have hb := B.2.1
  have hl : lv_has ls 1 [(0, .ref v0)] := hl
  unfold f_J0_isLatin1_aae02 at hf
  obtain ⟨_, hf⟩ := if_some hf
  refine q_gsI G.2.2.2.2.2.1 B hw rfl tw_2_205 dJ0_isLatin1_aae02_0 ?_
  refine lv_if_eq (tgt := 17) hx hb dJ0_isLatin1_aae02_3 (by decide) (fun c1 => ?_) (fun c1 => ?_)
  · have hf := (if_pos c1).symm.trans hf
    refine lv_iconst (v := 0) hx hb dJ0_isLatin1_aae02_17 (by decide) ?_
    obtain rfl := so hf
    exact q_zret (Or.inl rfl) B hw hz hc0 hr hlk dJ0_isLatin1_aae02_18
  · have hf := (if_neg c1).symm.trans hf
    refine lv_aload_n hx hb dJ0_isLatin1_aae02_6 rfl (lv_at hl 0 rfl) ?_
    obtain ⟨x2, e, hf⟩ := ob hf
    refine q_gSC e B hw rfl tw_8_215 dJ0_isLatin1_aae02_7 ?_
    refine lv_if_ne (tgt := 17) hx hb dJ0_isLatin1_aae02_10 (by decide) (fun c3 => ?_) (fun c3 => ?_)
    · have hf := (if_neg c3).symm.trans hf
      refine lv_iconst (v := 0) hx hb dJ0_isLatin1_aae02_17 (by decide) ?_
      obtain rfl := so hf
      exact q_zret (Or.inl rfl) B hw hz hc0 hr hlk dJ0_isLatin1_aae02_18
    · have hf := (if_pos c3).symm.trans hf
      refine lv_iconst (v := 1) hx hb dJ0_isLatin1_aae02_13 (by decide) ?_
      refine lv_goto (tgt := 18) hx hb dJ0_isLatin1_aae02_14 (by decide) ?_
      obtain rfl := so hf
      exact q_zret (Or.inr rfl) B hw hz hc0 hr hlk dJ0_isLatin1_aae02_18
/-! java/lang/StringLatin1.canEncode(I)Z -/
def f_J1_canEncode_9a6ad (z : Sh) (h : Hp) (v0 : Int32) : Option (Int32) :=
  if v0 < 0 then
    some 0
  else
    if 255 < v0 then
      some 0
    else
      some 1
set_option maxHeartbeats 4000000 in
theorem c_J1_canEncode_9a6ad {l : Launch} {s0 : State} {E : Ev} (G : Gl s0 E) {z : Sh} {h : Hp} {v0 : Int32} {r : Int32} (hf : f_J1_canEncode_9a6ad z h v0 = some r) : Ct l s0 E yJ1_canEncode_9a6ad cJ1_canEncode_9a6ad 1 (some .boolean) 0 0 [.int v0] z h h (some (.int r)) := by
  refine Ct.ofF G (by decide +kernel) (Nat.le_of_ble_eq_true rfl) ?_
  intro p e s m below meth c ls B hw hz hc0 hr hlk hl
  have B : Bd p s0 s E m c cJ1_canEncode_9a6ad 1 RJ1 := B
  have hx := B.1
  have hb := B.2.1
  have hl : lv_has ls 1 [(0, .int v0)] := hl
  unfold f_J1_canEncode_9a6ad at hf
  refine lv_iload_n hx hb dJ1_canEncode_9a6ad_0 rfl (lv_at hl 0 rfl) ?_
  refine lv_if_lt (tgt := 15) hx hb dJ1_canEncode_9a6ad_1 (by decide) (fun c1 => ?_) (fun c1 => ?_)
  · have hf := (if_pos c1).symm.trans hf
    refine lv_iconst (v := 0) hx hb dJ1_canEncode_9a6ad_15 (by decide) ?_
    obtain rfl := so hf
    exact q_zret (Or.inl rfl) B hw hz hc0 hr hlk dJ1_canEncode_9a6ad_16
  · have hf := (if_neg c1).symm.trans hf
    refine lv_iload_n hx hb dJ1_canEncode_9a6ad_4 rfl (lv_at hl 0 rfl) ?_
    refine lv_sipush (v := 255) hx hb dJ1_canEncode_9a6ad_5 (by decide) ?_
    refine lv_icmp_gt (tgt := 15) hx hb dJ1_canEncode_9a6ad_8 (by decide) (fun c2 => ?_) (fun c2 => ?_)
    · have hf := (if_pos c2).symm.trans hf
      refine lv_iconst (v := 0) hx hb dJ1_canEncode_9a6ad_15 (by decide) ?_
      obtain rfl := so hf
      exact q_zret (Or.inl rfl) B hw hz hc0 hr hlk dJ1_canEncode_9a6ad_16
    · have hf := (if_neg c2).symm.trans hf
      refine lv_iconst (v := 1) hx hb dJ1_canEncode_9a6ad_11 (by decide) ?_
      refine lv_goto (tgt := 16) hx hb dJ1_canEncode_9a6ad_12 (by decide) ?_
      obtain rfl := so hf
      exact q_zret (Or.inr rfl) B hw hz hc0 hr hlk dJ1_canEncode_9a6ad_16
