/-! SecondLifeModel.lastOf(I)I -/
def f_X12_lastOf (z : Sh) (h : Hp) (v0 : Int32) : Option (Int32) :=
  (dvI v0 7).bind fun x1 =>
  (rmI x1 5).bind fun x2 =>
  if x2 = 4 then
    some (9 : Int32)
  else
    some x2
set_option maxHeartbeats 4000000 in
theorem c_X12_lastOf {l : Launch} {s0 : State} {E : Ev} (G : Gl s0 E) {z : Sh} {h : Hp} {v0 : Int32} {r : Int32} (hf : f_X12_lastOf z h v0 = some r) : Ct l s0 E yX12_lastOf cX12_lastOf 2 (some .int) 0 0 [.int v0] z h h (some (.int r)) := by
  refine Ct.of G (by decide) (Nat.le_of_ble_eq_true rfl) ?_
  intro p e s m below meth c ls B hw hz hc0 hr hlk hl
  have B : Bd p s0 s E m c cX12_lastOf 2 RX12 := B
  have hx := B.1
  have hb := B.2.1
  have hl : lv_has ls 2 [(0, .int v0)] := hl
  unfold f_X12_lastOf at hf
  refine lv_iload_n hx hb dX12_lastOf_0 rfl (lv_at hl 0 rfl) ?_
  refine lv_bipush (v := 7) hx hb dX12_lastOf_1 (by decide) ?_
  obtain ⟨x1, e, hf⟩ := ob hf
  refine q_idiv e hx hb dX12_lastOf_3 ?_
  refine lv_iconst (v := 5) hx hb dX12_lastOf_4 (by decide) ?_
  obtain ⟨x2, e, hf⟩ := ob hf
  refine q_irem e hx hb dX12_lastOf_5 ?_
  refine lv_istore_n (lv' := [(1, .int x2), (0, .int v0)]) hx hb dX12_lastOf_6 rfl hl (by decide) rfl (fun ls hl => ?_)
  refine lv_iload_n hx hb dX12_lastOf_7 rfl (lv_at hl 0 rfl) ?_
  refine lv_iconst (v := 4) hx hb dX12_lastOf_8 (by decide) ?_
  refine lv_icmp_ne (tgt := 17) hx hb dX12_lastOf_9 (by decide) (fun c3 => ?_) (fun c3 => ?_)
  · have hf := (if_neg c3).symm.trans hf
    refine lv_iload_n hx hb dX12_lastOf_17 rfl (lv_at hl 0 rfl) ?_
    obtain rfl := so hf
    exact q_iret B hw hz hc0 hr hlk dX12_lastOf_18
  · have hf := (if_pos c3).symm.trans hf
    refine lv_bipush (v := 9) hx hb dX12_lastOf_12 (by decide) ?_
    refine lv_goto (tgt := 18) hx hb dX12_lastOf_14 (by decide) ?_
    obtain rfl := so hf
    exact q_iret B hw hz hc0 hr hlk dX12_lastOf_18
/-! SecondLifeModel.streakOf(I)I -/
def f_X12_streakOf (z : Sh) (h : Hp) (v0 : Int32) : Option (Int32) :=
  (rmI v0 7).bind fun x1 =>
  some x1
set_option maxHeartbeats 4000000 in
theorem c_X12_streakOf {l : Launch} {s0 : State} {E : Ev} (G : Gl s0 E) {z : Sh} {h : Hp} {v0 : Int32} {r : Int32} (hf : f_X12_streakOf z h v0 = some r) : Ct l s0 E yX12_streakOf cX12_streakOf 1 (some .int) 0 0 [.int v0] z h h (some (.int r)) := by
  refine Ct.of G (by decide) (Nat.le_of_ble_eq_true rfl) ?_
  intro p e s m below meth c ls B hw hz hc0 hr hlk hl
  have B : Bd p s0 s E m c cX12_streakOf 1 RX12 := B
  have hx := B.1
  have hb := B.2.1
  have hl : lv_has ls 1 [(0, .int v0)] := hl
  unfold f_X12_streakOf at hf
  refine lv_iload_n hx hb dX12_streakOf_0 rfl (lv_at hl 0 rfl) ?_
  refine lv_bipush (v := 7) hx hb dX12_streakOf_1 (by decide) ?_
  obtain ⟨x1, e, hf⟩ := ob hf
  refine q_irem e hx hb dX12_streakOf_3 ?_
  obtain rfl := so hf
  exact q_iret B hw hz hc0 hr hlk dX12_streakOf_4
/-! SecondLifeModel.standNow(I)I -/
def f_X12_standNow (z : Sh) (h : Hp) (v0 : Nat) (v1 : Int32) : Option (Int32) :=
  if z.K v0 = 12 then
    (gR z h 12 v0 1).bind fun a1 =>
    (ldI z h a1 (24 + v1)).bind fun x2 =>
    (gR z h 12 v0 1).bind fun a3 =>
    (ldI z h a3 (48 + v1)).bind fun x4 =>
    (gR z h 12 v0 1).bind fun a5 =>
    (ldI z h a5 (18 + v1)).bind fun x6 =>
    (gR z h 12 v0 1).bind fun a7 =>
    (ldI z h a7 (36 + v1)).bind fun x8 =>
    (gR z h 12 v0 1).bind fun a9 =>
    (ldI z h a9 (42 + v1)).bind fun x10 =>
    (f_X12_standOf z h x2 x4 x6 x8 x10).bind fun x11 =>
    some x11
  else none
theorem k_X12_standNow {z : Sh} {h : Hp} {v0 : Nat} {v1 : Int32} {w : Int32} (hf : f_X12_standNow z h v0 v1 = some w) : z.K v0 = 12 := by
  unfold f_X12_standNow at hf
  exact (if_some hf).1
set_option maxHeartbeats 4000000 in
theorem c_X12_standNow {l : Launch} {s0 : State} {E : Ev} (G : Gl s0 E) {z : Sh} {h : Hp} {v0 : Nat} {v1 : Int32} {r : Int32} (hf : f_X12_standNow z h v0 v1 = some r) : Ct l s0 E yX12_standNow cX12_standNow 2 (some .int) 1 24 [.ref v0, .int v1] z h h (some (.int r)) := by
  refine Ct.of G (by decide) (Nat.le_of_ble_eq_true rfl) ?_
  intro p e s m below meth c ls B hw hz hc0 hr hlk hl
  have B : Bd p s0 s E m c cX12_standNow 2 RX12 := B
  have hx := B.1
  have hb := B.2.1
  have hl : lv_has ls 2 [(0, .ref v0), (1, .int v1)] := hl
  unfold f_X12_standNow at hf
  obtain ⟨_, hf⟩ := if_some hf
  refine lv_aload_n hx hb dX12_standNow_0 rfl (lv_at hl 0 rfl) ?_
  obtain ⟨a1, e, hf⟩ := ob hf
  refine q_getR e B hw fd_12_1.1 fd_12_1.2.1 fd_12_1.2.2.1 fd_12_1.2.2.2.1 fd_12_1.2.2.2.2 rfl tw_6_44 dX12_standNow_1 ?_
  refine lv_bipush (v := 24) hx hb dX12_standNow_4 (by decide) ?_
  refine lv_iload_n hx hb dX12_standNow_6 rfl (lv_at hl 1 rfl) ?_
  refine lv_iadd hx hb dX12_standNow_7 ?_
  obtain ⟨x2, e, hf⟩ := ob hf
  refine q_ldI e B hw dX12_standNow_8 ?_
  refine lv_aload_n hx hb dX12_standNow_9 rfl (lv_at hl 0 rfl) ?_
  obtain ⟨a3, e, hf⟩ := ob hf
  refine q_getR e B hw fd_12_1.1 fd_12_1.2.1 fd_12_1.2.2.1 fd_12_1.2.2.2.1 fd_12_1.2.2.2.2 rfl tw_6_44 dX12_standNow_10 ?_
  refine lv_bipush (v := 48) hx hb dX12_standNow_13 (by decide) ?_
  refine lv_iload_n hx hb dX12_standNow_15 rfl (lv_at hl 1 rfl) ?_
  refine lv_iadd hx hb dX12_standNow_16 ?_
  obtain ⟨x4, e, hf⟩ := ob hf
  refine q_ldI e B hw dX12_standNow_17 ?_
  refine lv_aload_n hx hb dX12_standNow_18 rfl (lv_at hl 0 rfl) ?_
  obtain ⟨a5, e, hf⟩ := ob hf
  refine q_getR e B hw fd_12_1.1 fd_12_1.2.1 fd_12_1.2.2.1 fd_12_1.2.2.2.1 fd_12_1.2.2.2.2 rfl tw_6_44 dX12_standNow_19 ?_
  refine lv_bipush (v := 18) hx hb dX12_standNow_22 (by decide) ?_
  refine lv_iload_n hx hb dX12_standNow_24 rfl (lv_at hl 1 rfl) ?_
  refine lv_iadd hx hb dX12_standNow_25 ?_
  obtain ⟨x6, e, hf⟩ := ob hf
  refine q_ldI e B hw dX12_standNow_26 ?_
  refine lv_aload_n hx hb dX12_standNow_27 rfl (lv_at hl 0 rfl) ?_
  obtain ⟨a7, e, hf⟩ := ob hf
  refine q_getR e B hw fd_12_1.1 fd_12_1.2.1 fd_12_1.2.2.1 fd_12_1.2.2.2.1 fd_12_1.2.2.2.2 rfl tw_6_44 dX12_standNow_28 ?_
  refine lv_bipush (v := 36) hx hb dX12_standNow_31 (by decide) ?_
  refine lv_iload_n hx hb dX12_standNow_33 rfl (lv_at hl 1 rfl) ?_
  refine lv_iadd hx hb dX12_standNow_34 ?_
  obtain ⟨x8, e, hf⟩ := ob hf
  refine q_ldI e B hw dX12_standNow_35 ?_
  refine lv_aload_n hx hb dX12_standNow_36 rfl (lv_at hl 0 rfl) ?_
  obtain ⟨a9, e, hf⟩ := ob hf
  refine q_getR e B hw fd_12_1.1 fd_12_1.2.1 fd_12_1.2.2.1 fd_12_1.2.2.2.1 fd_12_1.2.2.2.2 rfl tw_6_44 dX12_standNow_37 ?_
  refine lv_bipush (v := 42) hx hb dX12_standNow_40 (by decide) ?_
  refine lv_iload_n hx hb dX12_standNow_42 rfl (lv_at hl 1 rfl) ?_
  refine lv_iadd hx hb dX12_standNow_43 ?_
  obtain ⟨x10, e, hf⟩ := ob hf
  refine q_ldI e B hw dX12_standNow_44 ?_
  obtain ⟨x11, e, hf⟩ := ob hf
  refine q_callS (As := [.int x2, .int x4, .int x6, .int x8, .int x10]) (rest := []) (st1 := [.int x11]) (c_X12_standOf G e) B hw hz hc0 my_X12_standOf mv_X12_standOf tw_7_52 ⟨Nat.le_of_ble_eq_true rfl, Nat.le_of_ble_eq_true rfl⟩ ⟨Nat.zero_le _, Nat.zero_le _⟩ rfl hl.1 rfl rfl (Nat.le_of_ble_eq_true rfl) dX12_standNow_45 (fun H locs hw => ?_)
  obtain rfl := so hf
  exact q_iret B hw hz hc0 hr hlk dX12_standNow_48
/-! SecondLifeModel.worthOf(III)I -/
def f_X12_worthOf (n : Nat) (z : Sh) (h : Hp) (v0 : Nat) (v1 : Int32) (v2 : Int32) (v3 : Int32) : Option (Int32 × Hp) :=
  if z.K v0 = 12 then
    (gR z h 12 v0 1).bind fun a1 =>
    (ldI z h a1 5).bind fun x2 =>
    if x2 = 0 then
      some ((1 : Int32), h)
    else
      (gR z h 12 v0 17).bind fun a4 =>
      (stI z h a4 0 v1).bind fun h5 =>
      (gR z h5 12 v0 17).bind fun a6 =>
      (f_X12_yearOf z h5 v2).bind fun x7 =>
      (stI z h5 a6 1 x7).bind fun h8 =>
      (gR z h8 12 v0 17).bind fun a9 =>
      (stI z h8 a9 2 v3).bind fun h10 =>
      (gR z h10 12 v0 17).bind fun a11 =>
      (f_X12_lastOf z h10 v2).bind fun x12 =>
      (stI z h10 a11 3 x12).bind fun h13 =>
      (gR z h13 12 v0 17).bind fun a14 =>
      (f_X12_streakOf z h13 v2).bind fun x15 =>
      (stI z h13 a14 4 x15).bind fun h16 =>
      (gR z h16 12 v0 17).bind fun a17 =>
      (f_X12_lifeOf z h16 v2).bind fun x18 =>
      (stI z h16 a17 5 x18).bind fun h19 =>
      (gR z h19 12 v0 17).bind fun a20 =>
      (f_X12_oldOf z h19 v2).bind fun x21 =>
      (stI z h19 a20 6 x21).bind fun h22 =>
      (f_X12_reckons n z h22 v0 0).bind fun (x23, h24) =>
      if (-9) ≤ x23 then
        if x23 ≤ 9 then
          some (x23, h24)
        else
          some ((9 : Int32), h24)
      else
        some (((-9) : Int32), h24)
  else none
theorem k_X12_worthOf {n : Nat} {z : Sh} {h : Hp} {v0 : Nat} {v1 : Int32} {v2 : Int32} {v3 : Int32} {w : Int32 × Hp} (hf : f_X12_worthOf n z h v0 v1 v2 v3 = some w) : z.K v0 = 12 := by
  unfold f_X12_worthOf at hf
  exact (if_some hf).1
set_option maxHeartbeats 4000000 in
theorem c_X12_worthOf {l : Launch} {s0 : State} {E : Ev} (G : Gl s0 E) {n : Nat} {z : Sh} {h : Hp} {v0 : Nat} {v1 : Int32} {v2 : Int32} {v3 : Int32} {r : Int32} {h' : Hp} (hf : f_X12_worthOf n z h v0 v1 v2 v3 = some (r, h')) : Ct l s0 E yX12_worthOf cX12_worthOf 5 (some .int) 2 48 [.ref v0, .int v1, .int v2, .int v3] z h h' (some (.int r)) := by
  refine Ct.of G (by decide) (Nat.le_of_ble_eq_true rfl) ?_
  intro p e s m below meth c ls B hw hz hc0 hr hlk hl
  have B : Bd p s0 s E m c cX12_worthOf 5 RX12 := B
  have hx := B.1
  have hb := B.2.1
  have hl : lv_has ls 5 [(0, .ref v0), (1, .int v1), (2, .int v2), (3, .int v3)] := hl
  unfold f_X12_worthOf at hf
  obtain ⟨_, hf⟩ := if_some hf
  refine lv_aload_n hx hb dX12_worthOf_0 rfl (lv_at hl 0 rfl) ?_
  obtain ⟨a1, e, hf⟩ := ob hf
  refine q_getR e B hw fd_12_1.1 fd_12_1.2.1 fd_12_1.2.2.1 fd_12_1.2.2.2.1 fd_12_1.2.2.2.2 rfl tw_6_44 dX12_worthOf_1 ?_
  refine lv_iconst (v := 5) hx hb dX12_worthOf_4 (by decide) ?_
  obtain ⟨x2, e, hf⟩ := ob hf
  refine q_ldI e B hw dX12_worthOf_5 ?_
  refine lv_if_ne (tgt := 11) hx hb dX12_worthOf_6 (by decide) (fun c3 => ?_) (fun c3 => ?_)
  · have hf := (if_neg c3).symm.trans hf
    refine lv_aload_n hx hb dX12_worthOf_11 rfl (lv_at hl 0 rfl) ?_
    obtain ⟨a4, e, hf⟩ := ob hf
    refine q_getR e B hw fd_12_17.1 fd_12_17.2.1 fd_12_17.2.2.1 fd_12_17.2.2.2.1 fd_12_17.2.2.2.2 rfl tw_6_60 dX12_worthOf_12 ?_
    refine lv_iconst (v := 0) hx hb dX12_worthOf_15 (by decide) ?_
    refine lv_iload_n hx hb dX12_worthOf_16 rfl (lv_at hl 1 rfl) ?_
    obtain ⟨h5, e, hf⟩ := ob hf
    refine q_stI e B hw dX12_worthOf_17 (fun H locs hw => ?_)
    refine lv_aload_n hx hb dX12_worthOf_18 rfl (lv_at hl 0 rfl) ?_
    obtain ⟨a6, e, hf⟩ := ob hf
    refine q_getR e B hw fd_12_17.1 fd_12_17.2.1 fd_12_17.2.2.1 fd_12_17.2.2.2.1 fd_12_17.2.2.2.2 rfl tw_6_60 dX12_worthOf_19 ?_
    refine lv_iconst (v := 1) hx hb dX12_worthOf_22 (by decide) ?_
    refine lv_iload_n hx hb dX12_worthOf_23 rfl (lv_at hl 2 rfl) ?_
    obtain ⟨x7, e, hf⟩ := ob hf
    refine q_callS (As := [.int v2]) (rest := [.int 1, .ref a6]) (st1 := [.int x7, .int 1, .ref a6]) (c_X12_yearOf G e) B hw hz hc0 my_X12_yearOf mv_X12_yearOf tw_7_59 ⟨Nat.le_of_ble_eq_true rfl, Nat.le_of_ble_eq_true rfl⟩ ⟨Nat.zero_le _, Nat.zero_le _⟩ rfl hl.1 rfl rfl (Nat.le_of_ble_eq_true rfl) dX12_worthOf_24 (fun H locs hw => ?_)
    obtain ⟨h8, e, hf⟩ := ob hf
    refine q_stI e B hw dX12_worthOf_27 (fun H locs hw => ?_)
    refine lv_aload_n hx hb dX12_worthOf_28 rfl (lv_at hl 0 rfl) ?_
    obtain ⟨a9, e, hf⟩ := ob hf
    refine q_getR e B hw fd_12_17.1 fd_12_17.2.1 fd_12_17.2.2.1 fd_12_17.2.2.2.1 fd_12_17.2.2.2.2 rfl tw_6_60 dX12_worthOf_29 ?_
    refine lv_iconst (v := 2) hx hb dX12_worthOf_32 (by decide) ?_
    refine lv_iload_n hx hb dX12_worthOf_33 rfl (lv_at hl 3 rfl) ?_
    obtain ⟨h10, e, hf⟩ := ob hf
    refine q_stI e B hw dX12_worthOf_34 (fun H locs hw => ?_)
    refine lv_aload_n hx hb dX12_worthOf_35 rfl (lv_at hl 0 rfl) ?_
    obtain ⟨a11, e, hf⟩ := ob hf
    refine q_getR e B hw fd_12_17.1 fd_12_17.2.1 fd_12_17.2.2.1 fd_12_17.2.2.2.1 fd_12_17.2.2.2.2 rfl tw_6_60 dX12_worthOf_36 ?_
    refine lv_iconst (v := 3) hx hb dX12_worthOf_39 (by decide) ?_
    refine lv_iload_n hx hb dX12_worthOf_40 rfl (lv_at hl 2 rfl) ?_
    obtain ⟨x12, e, hf⟩ := ob hf
    refine q_callS (As := [.int v2]) (rest := [.int 3, .ref a11]) (st1 := [.int x12, .int 3, .ref a11]) (c_X12_lastOf G e) B hw hz hc0 my_X12_lastOf mv_X12_lastOf tw_7_66 ⟨Nat.le_of_ble_eq_true rfl, Nat.le_of_ble_eq_true rfl⟩ ⟨Nat.zero_le _, Nat.zero_le _⟩ rfl hl.1 rfl rfl (Nat.le_of_ble_eq_true rfl) dX12_worthOf_41 (fun H locs hw => ?_)
    obtain ⟨h13, e, hf⟩ := ob hf
    refine q_stI e B hw dX12_worthOf_44 (fun H locs hw => ?_)
    refine lv_aload_n hx hb dX12_worthOf_45 rfl (lv_at hl 0 rfl) ?_
    obtain ⟨a14, e, hf⟩ := ob hf
    refine q_getR e B hw fd_12_17.1 fd_12_17.2.1 fd_12_17.2.2.1 fd_12_17.2.2.2.1 fd_12_17.2.2.2.2 rfl tw_6_60 dX12_worthOf_46 ?_
    refine lv_iconst (v := 4) hx hb dX12_worthOf_49 (by decide) ?_
    refine lv_iload_n hx hb dX12_worthOf_50 rfl (lv_at hl 2 rfl) ?_
    obtain ⟨x15, e, hf⟩ := ob hf
    refine q_callS (As := [.int v2]) (rest := [.int 4, .ref a14]) (st1 := [.int x15, .int 4, .ref a14]) (c_X12_streakOf G e) B hw hz hc0 my_X12_streakOf mv_X12_streakOf tw_7_69 ⟨Nat.le_of_ble_eq_true rfl, Nat.le_of_ble_eq_true rfl⟩ ⟨Nat.zero_le _, Nat.zero_le _⟩ rfl hl.1 rfl rfl (Nat.le_of_ble_eq_true rfl) dX12_worthOf_51 (fun H locs hw => ?_)
    obtain ⟨h16, e, hf⟩ := ob hf
    refine q_stI e B hw dX12_worthOf_54 (fun H locs hw => ?_)
    refine lv_aload_n hx hb dX12_worthOf_55 rfl (lv_at hl 0 rfl) ?_
    obtain ⟨a17, e, hf⟩ := ob hf
    refine q_getR e B hw fd_12_17.1 fd_12_17.2.1 fd_12_17.2.2.1 fd_12_17.2.2.2.1 fd_12_17.2.2.2.2 rfl tw_6_60 dX12_worthOf_56 ?_
    refine lv_iconst (v := 5) hx hb dX12_worthOf_59 (by decide) ?_
    refine lv_iload_n hx hb dX12_worthOf_60 rfl (lv_at hl 2 rfl) ?_
    obtain ⟨x18, e, hf⟩ := ob hf
    refine q_callS (As := [.int v2]) (rest := [.int 5, .ref a17]) (st1 := [.int x18, .int 5, .ref a17]) (c_X12_lifeOf G e) B hw hz hc0 my_X12_lifeOf mv_X12_lifeOf tw_7_72 ⟨Nat.le_of_ble_eq_true rfl, Nat.le_of_ble_eq_true rfl⟩ ⟨Nat.zero_le _, Nat.zero_le _⟩ rfl hl.1 rfl rfl (Nat.le_of_ble_eq_true rfl) dX12_worthOf_61 (fun H locs hw => ?_)
    obtain ⟨h19, e, hf⟩ := ob hf
    refine q_stI e B hw dX12_worthOf_64 (fun H locs hw => ?_)
    refine lv_aload_n hx hb dX12_worthOf_65 rfl (lv_at hl 0 rfl) ?_
    obtain ⟨a20, e, hf⟩ := ob hf
    refine q_getR e B hw fd_12_17.1 fd_12_17.2.1 fd_12_17.2.2.1 fd_12_17.2.2.2.1 fd_12_17.2.2.2.2 rfl tw_6_60 dX12_worthOf_66 ?_
    refine lv_bipush (v := 6) hx hb dX12_worthOf_69 (by decide) ?_
    refine lv_iload_n hx hb dX12_worthOf_71 rfl (lv_at hl 2 rfl) ?_
    obtain ⟨x21, e, hf⟩ := ob hf
    refine q_callS (As := [.int v2]) (rest := [.int 6, .ref a20]) (st1 := [.int x21, .int 6, .ref a20]) (c_X12_oldOf G e) B hw hz hc0 my_X12_oldOf mv_X12_oldOf tw_7_75 ⟨Nat.le_of_ble_eq_true rfl, Nat.le_of_ble_eq_true rfl⟩ ⟨Nat.zero_le _, Nat.zero_le _⟩ rfl hl.1 rfl rfl (Nat.le_of_ble_eq_true rfl) dX12_worthOf_72 (fun H locs hw => ?_)
    obtain ⟨h22, e, hf⟩ := ob hf
    refine q_stI e B hw dX12_worthOf_75 (fun H locs hw => ?_)
    refine lv_aload_n hx hb dX12_worthOf_76 rfl (lv_at hl 0 rfl) ?_
    refine lv_iconst (v := 0) hx hb dX12_worthOf_77 (by decide) ?_
    obtain ⟨⟨x23, h24⟩, e, hf⟩ := ob hf
    refine q_callV (As := [.int 0]) (rest := []) (st1 := [.int x23]) (c_X12_reckons G e) B hw hz hc0 (k_X12_reckons e) (by decide) (ci := 12) rfl rfl my_X12_reckons mv_X12_reckons tw_7_78 ⟨Nat.le_of_ble_eq_true rfl, Nat.le_of_ble_eq_true rfl⟩ ⟨Nat.zero_le _, Nat.zero_le _⟩ rfl hl.1 rfl rfl (Nat.le_of_ble_eq_true rfl) dX12_worthOf_78 (fun H locs hw => ?_)
    refine lv_istore (lv' := [(4, .int x23), (0, .ref v0), (1, .int v1), (2, .int v2), (3, .int v3)]) hx hb dX12_worthOf_81 hl (by decide) rfl (fun ls hl => ?_)
    refine lv_iload hx hb dX12_worthOf_83 (lv_at hl 0 rfl) ?_
    refine lv_bipush (v := (-9)) hx hb dX12_worthOf_85 (by decide) ?_
    refine lv_icmp_ge (tgt := 95) hx hb dX12_worthOf_87 (by decide) (fun c25 => ?_) (fun c25 => ?_)
    · have hf := (if_pos c25).symm.trans hf
      refine lv_iload hx hb dX12_worthOf_95 (lv_at hl 0 rfl) ?_
      refine lv_bipush (v := 9) hx hb dX12_worthOf_97 (by decide) ?_
      refine lv_icmp_le (tgt := 107) hx hb dX12_worthOf_99 (by decide) (fun c26 => ?_) (fun c26 => ?_)
      · have hf := (if_pos c26).symm.trans hf
        refine lv_iload hx hb dX12_worthOf_107 (lv_at hl 0 rfl) ?_
        obtain ⟨rfl, rfl⟩ := so2 hf
        exact q_iret B hw hz hc0 hr hlk dX12_worthOf_109
      · have hf := (if_neg c26).symm.trans hf
        refine lv_bipush (v := 9) hx hb dX12_worthOf_102 (by decide) ?_
        refine lv_goto (tgt := 109) hx hb dX12_worthOf_104 (by decide) ?_
        obtain ⟨rfl, rfl⟩ := so2 hf
        exact q_iret B hw hz hc0 hr hlk dX12_worthOf_109
    · have hf := (if_neg c25).symm.trans hf
      refine lv_bipush (v := (-9)) hx hb dX12_worthOf_90 (by decide) ?_
      refine lv_goto (tgt := 109) hx hb dX12_worthOf_92 (by decide) ?_
      obtain ⟨rfl, rfl⟩ := so2 hf
      exact q_iret B hw hz hc0 hr hlk dX12_worthOf_109
  · have hf := (if_pos c3).symm.trans hf
    refine lv_iconst (v := 1) hx hb dX12_worthOf_9 (by decide) ?_
    obtain ⟨rfl, rfl⟩ := so2 hf
    exact q_iret B hw hz hc0 hr hlk dX12_worthOf_10
/-! SecondLifeModel.grownTo(II)I -/
def f_X12_grownTo (n : Nat) (z : Sh) (h : Hp) (v0 : Nat) (v1 : Int32) (v2 : Int32) : Option (Int32 × Hp) :=
  if z.K v0 = 12 then
    (gR z h 12 v0 1).bind fun a1 =>
    (ldI z h a1 6).bind fun x2 =>
    if x2 = 0 then
      some ((0 : Int32), h)
    else
      (gR z h 12 v0 17).bind fun a4 =>
      (stI z h a4 0 v1).bind fun h5 =>
      (gR z h5 12 v0 17).bind fun a6 =>
      (stI z h5 a6 1 v2).bind fun h7 =>
      (f_X12_reckons n z h7 v0 1).bind fun (x8, h9) =>
      if 0 ≤ x8 then
        (gR z h9 12 v0 1).bind fun a11 =>
        (ldI z h9 a11 1).bind fun x12 =>
        if x8 ≤ x12 then
          some (x8, h9)
        else
          (gR z h9 12 v0 1).bind fun a14 =>
          (ldI z h9 a14 1).bind fun x15 =>
          some (x15, h9)
      else
        some ((0 : Int32), h9)
  else none
theorem k_X12_grownTo {n : Nat} {z : Sh} {h : Hp} {v0 : Nat} {v1 : Int32} {v2 : Int32} {w : Int32 × Hp} (hf : f_X12_grownTo n z h v0 v1 v2 = some w) : z.K v0 = 12 := by
  unfold f_X12_grownTo at hf
  exact (if_some hf).1
set_option maxHeartbeats 4000000 in
theorem c_X12_grownTo {l : Launch} {s0 : State} {E : Ev} (G : Gl s0 E) {n : Nat} {z : Sh} {h : Hp} {v0 : Nat} {v1 : Int32} {v2 : Int32} {r : Int32} {h' : Hp} (hf : f_X12_grownTo n z h v0 v1 v2 = some (r, h')) : Ct l s0 E yX12_grownTo cX12_grownTo 4 (some .int) 2 48 [.ref v0, .int v1, .int v2] z h h' (some (.int r)) := by
  refine Ct.of G (by decide) (Nat.le_of_ble_eq_true rfl) ?_
  intro p e s m below meth c ls B hw hz hc0 hr hlk hl
  have B : Bd p s0 s E m c cX12_grownTo 4 RX12 := B
  have hx := B.1
  have hb := B.2.1
  have hl : lv_has ls 4 [(0, .ref v0), (1, .int v1), (2, .int v2)] := hl
  unfold f_X12_grownTo at hf
  obtain ⟨_, hf⟩ := if_some hf
  refine lv_aload_n hx hb dX12_grownTo_0 rfl (lv_at hl 0 rfl) ?_
  obtain ⟨a1, e, hf⟩ := ob hf
  refine q_getR e B hw fd_12_1.1 fd_12_1.2.1 fd_12_1.2.2.1 fd_12_1.2.2.2.1 fd_12_1.2.2.2.2 rfl tw_6_44 dX12_grownTo_1 ?_
  refine lv_bipush (v := 6) hx hb dX12_grownTo_4 (by decide) ?_
  obtain ⟨x2, e, hf⟩ := ob hf
  refine q_ldI e B hw dX12_grownTo_6 ?_
  refine lv_if_ne (tgt := 12) hx hb dX12_grownTo_7 (by decide) (fun c3 => ?_) (fun c3 => ?_)
  · have hf := (if_neg c3).symm.trans hf
    refine lv_aload_n hx hb dX12_grownTo_12 rfl (lv_at hl 0 rfl) ?_
    obtain ⟨a4, e, hf⟩ := ob hf
    refine q_getR e B hw fd_12_17.1 fd_12_17.2.1 fd_12_17.2.2.1 fd_12_17.2.2.2.1 fd_12_17.2.2.2.2 rfl tw_6_60 dX12_grownTo_13 ?_
    refine lv_iconst (v := 0) hx hb dX12_grownTo_16 (by decide) ?_
    refine lv_iload_n hx hb dX12_grownTo_17 rfl (lv_at hl 1 rfl) ?_
    obtain ⟨h5, e, hf⟩ := ob hf
    refine q_stI e B hw dX12_grownTo_18 (fun H locs hw => ?_)
    refine lv_aload_n hx hb dX12_grownTo_19 rfl (lv_at hl 0 rfl) ?_
    obtain ⟨a6, e, hf⟩ := ob hf
    refine q_getR e B hw fd_12_17.1 fd_12_17.2.1 fd_12_17.2.2.1 fd_12_17.2.2.2.1 fd_12_17.2.2.2.2 rfl tw_6_60 dX12_grownTo_20 ?_
    refine lv_iconst (v := 1) hx hb dX12_grownTo_23 (by decide) ?_
    refine lv_iload_n hx hb dX12_grownTo_24 rfl (lv_at hl 2 rfl) ?_
    obtain ⟨h7, e, hf⟩ := ob hf
    refine q_stI e B hw dX12_grownTo_25 (fun H locs hw => ?_)
    refine lv_aload_n hx hb dX12_grownTo_26 rfl (lv_at hl 0 rfl) ?_
    refine lv_iconst (v := 1) hx hb dX12_grownTo_27 (by decide) ?_
    obtain ⟨⟨x8, h9⟩, e, hf⟩ := ob hf
    refine q_callV (As := [.int 1]) (rest := []) (st1 := [.int x8]) (c_X12_reckons G e) B hw hz hc0 (k_X12_reckons e) (by decide) (ci := 12) rfl rfl my_X12_reckons mv_X12_reckons tw_7_78 ⟨Nat.le_of_ble_eq_true rfl, Nat.le_of_ble_eq_true rfl⟩ ⟨Nat.zero_le _, Nat.zero_le _⟩ rfl hl.1 rfl rfl (Nat.le_of_ble_eq_true rfl) dX12_grownTo_28 (fun H locs hw => ?_)
    refine lv_istore_n (lv' := [(3, .int x8), (0, .ref v0), (1, .int v1), (2, .int v2)]) hx hb dX12_grownTo_31 rfl hl (by decide) rfl (fun ls hl => ?_)
    refine lv_iload_n hx hb dX12_grownTo_32 rfl (lv_at hl 0 rfl) ?_
    refine lv_if_ge (tgt := 40) hx hb dX12_grownTo_33 (by decide) (fun c10 => ?_) (fun c10 => ?_)
    · have hf := (if_pos c10).symm.trans hf
      refine lv_iload_n hx hb dX12_grownTo_40 rfl (lv_at hl 0 rfl) ?_
      refine lv_aload_n hx hb dX12_grownTo_41 rfl (lv_at hl 1 rfl) ?_
      obtain ⟨a11, e, hf⟩ := ob hf
      refine q_getR e B hw fd_12_1.1 fd_12_1.2.1 fd_12_1.2.2.1 fd_12_1.2.2.2.1 fd_12_1.2.2.2.2 rfl tw_6_44 dX12_grownTo_42 ?_
      refine lv_iconst (v := 1) hx hb dX12_grownTo_45 (by decide) ?_
      obtain ⟨x12, e, hf⟩ := ob hf
      refine q_ldI e B hw dX12_grownTo_46 ?_
      refine lv_icmp_le (tgt := 59) hx hb dX12_grownTo_47 (by decide) (fun c13 => ?_) (fun c13 => ?_)
      · have hf := (if_pos c13).symm.trans hf
        refine lv_iload_n hx hb dX12_grownTo_59 rfl (lv_at hl 0 rfl) ?_
        obtain ⟨rfl, rfl⟩ := so2 hf
        exact q_iret B hw hz hc0 hr hlk dX12_grownTo_60
      · have hf := (if_neg c13).symm.trans hf
        refine lv_aload_n hx hb dX12_grownTo_50 rfl (lv_at hl 1 rfl) ?_
        obtain ⟨a14, e, hf⟩ := ob hf
        refine q_getR e B hw fd_12_1.1 fd_12_1.2.1 fd_12_1.2.2.1 fd_12_1.2.2.2.1 fd_12_1.2.2.2.2 rfl tw_6_44 dX12_grownTo_51 ?_
        refine lv_iconst (v := 1) hx hb dX12_grownTo_54 (by decide) ?_
        obtain ⟨x15, e, hf⟩ := ob hf
        refine q_ldI e B hw dX12_grownTo_55 ?_
        refine lv_goto (tgt := 60) hx hb dX12_grownTo_56 (by decide) ?_
        obtain ⟨rfl, rfl⟩ := so2 hf
        exact q_iret B hw hz hc0 hr hlk dX12_grownTo_60
    · have hf := (if_neg c10).symm.trans hf
      refine lv_iconst (v := 0) hx hb dX12_grownTo_36 (by decide) ?_
      refine lv_goto (tgt := 60) hx hb dX12_grownTo_37 (by decide) ?_
      obtain ⟨rfl, rfl⟩ := so2 hf
      exact q_iret B hw hz hc0 hr hlk dX12_grownTo_60
  · have hf := (if_pos c3).symm.trans hf
    refine lv_iconst (v := 0) hx hb dX12_grownTo_10 (by decide) ?_
    obtain ⟨rfl, rfl⟩ := so2 hf
    exact q_iret B hw hz hc0 hr hlk dX12_grownTo_11
/-! SecondLifeModel.isOver(I)Z -/
def f_X12_isOver (z : Sh) (h : Hp) (v0 : Nat) (v1 : Int32) : Option (Int32) :=
  if z.K v0 = 12 then
    (f_X12_yearOf z h v1).bind fun x1 =>
    (gR z h 12 v0 1).bind fun a2 =>
    (ldI z h a2 1).bind fun x3 =>
    if x1 < x3 then
      some 0
    else
      some 1
  else none
theorem k_X12_isOver {z : Sh} {h : Hp} {v0 : Nat} {v1 : Int32} {w : Int32} (hf : f_X12_isOver z h v0 v1 = some w) : z.K v0 = 12 := by
  unfold f_X12_isOver at hf
  exact (if_some hf).1
set_option maxHeartbeats 4000000 in
theorem c_X12_isOver {l : Launch} {s0 : State} {E : Ev} (G : Gl s0 E) {z : Sh} {h : Hp} {v0 : Nat} {v1 : Int32} {r : Int32} (hf : f_X12_isOver z h v0 v1 = some r) : Ct l s0 E yX12_isOver cX12_isOver 2 (some .boolean) 1 20 [.ref v0, .int v1] z h h (some (.int r)) := by
  refine Ct.of G (by decide) (Nat.le_of_ble_eq_true rfl) ?_
  intro p e s m below meth c ls B hw hz hc0 hr hlk hl
  have B : Bd p s0 s E m c cX12_isOver 2 RX12 := B
  have hx := B.1
  have hb := B.2.1
  have hl : lv_has ls 2 [(0, .ref v0), (1, .int v1)] := hl
  unfold f_X12_isOver at hf
  obtain ⟨_, hf⟩ := if_some hf
  refine lv_iload_n hx hb dX12_isOver_0 rfl (lv_at hl 1 rfl) ?_
  obtain ⟨x1, e, hf⟩ := ob hf
  refine q_callS (As := [.int v1]) (rest := []) (st1 := [.int x1]) (c_X12_yearOf G e) B hw hz hc0 my_X12_yearOf mv_X12_yearOf tw_7_59 ⟨Nat.le_of_ble_eq_true rfl, Nat.le_of_ble_eq_true rfl⟩ ⟨Nat.zero_le _, Nat.zero_le _⟩ rfl hl.1 rfl rfl (Nat.le_of_ble_eq_true rfl) dX12_isOver_1 (fun H locs hw => ?_)
  refine lv_aload_n hx hb dX12_isOver_4 rfl (lv_at hl 0 rfl) ?_
  obtain ⟨a2, e, hf⟩ := ob hf
  refine q_getR e B hw fd_12_1.1 fd_12_1.2.1 fd_12_1.2.2.1 fd_12_1.2.2.2.1 fd_12_1.2.2.2.2 rfl tw_6_44 dX12_isOver_5 ?_
  refine lv_iconst (v := 1) hx hb dX12_isOver_8 (by decide) ?_
  obtain ⟨x3, e, hf⟩ := ob hf
  refine q_ldI e B hw dX12_isOver_9 ?_
  refine lv_icmp_lt (tgt := 17) hx hb dX12_isOver_10 (by decide) (fun c4 => ?_) (fun c4 => ?_)
  · have hf := (if_pos c4).symm.trans hf
    refine lv_iconst (v := 0) hx hb dX12_isOver_17 (by decide) ?_
    obtain rfl := so hf
    exact q_zret (Or.inl rfl) B hw hz hc0 hr hlk dX12_isOver_18
  · have hf := (if_neg c4).symm.trans hf
    refine lv_iconst (v := 1) hx hb dX12_isOver_13 (by decide) ?_
    refine lv_goto (tgt := 18) hx hb dX12_isOver_14 (by decide) ?_
    obtain rfl := so hf
    exact q_zret (Or.inr rfl) B hw hz hc0 hr hlk dX12_isOver_18
/-! SecondLifeModel.livedTo(II)I -/
def f_X12_livedTo_33 (z : Sh) (h : Hp) (u0 : Int32) (u1 : Int32) (u2 : Int32) (u3 : Int32) (u4 : Int32) : Option (Int32) :=
  (f_X12_standOf z h u4 u3 u2 u1 u0).bind fun x1 =>
  some x1
def f_X12_livedTo (z : Sh) (h : Hp) (v0 : Int32) (v1 : Int32) : Option (Int32) :=
  (f_X12_lifeOf z h v0).bind fun x1 =>
  (f_X12_oldOf z h v0).bind fun x2 =>
  (f_X12_yearOf z h v0).bind fun x3 =>
  (f_X12_lastOf z h v0).bind fun x4 =>
  if x4 = v1 then
    (f_X12_streakOf z h v0).bind fun x6 =>
    f_X12_livedTo_33 z h (x6 + 1) v1 (x3 + 1) x2 x1
  else
    f_X12_livedTo_33 z h 1 v1 (x3 + 1) x2 x1
set_option maxHeartbeats 4000000 in
theorem w_X12_livedTo_33 {p : Program} {l : Launch} {e : Env} {s : State} {m : MethodId} {args : Array Value} {below : List Frame} {meth : Method} {c : Code} {s0 : State} {E : Ev} {z : Sh} {h : Hp} {r : Int32} (G : Gl s0 E) (B : Bd p s0 s E m c cX12_livedTo 2 RX12) (hz : s0.heap.size ≤ z.sz) (hc0 : s.heap.size + 0 = z.sz) (hr : meth.sig.returnType = (some .int)) (hlk : meth.locks = false) : ∀ (u0 : Int32) (u1 : Int32) (u2 : Int32) (u3 : Int32) (u4 : Int32) (H : Heap) (locs : List Loc) (ls : Array Slot), Pw s0 s E z h H locs → lv_has ls 2 [] → f_X12_livedTo_33 z h u0 u1 u2 u3 u4 = some r → W p l e (rmO 1 24) s m args below meth c H locs 0 0 (Zt below s0 E z h (some (.int r)) args s 0 0) (F0 m 33 ls [.int u0, .int u1, .int u2, .int u3, .int u4]) := by
  have hx := B.1
  have hb := B.2.1
  intro u0 u1 u2 u3 u4 H locs ls hw hl hf
  unfold f_X12_livedTo_33 at hf
  obtain ⟨x1, e, hf⟩ := ob hf
  refine q_callS (As := [.int u4, .int u3, .int u2, .int u1, .int u0]) (rest := []) (st1 := [.int x1]) (c_X12_standOf G e) B hw hz hc0 my_X12_standOf mv_X12_standOf tw_7_52 ⟨Nat.le_of_ble_eq_true rfl, Nat.le_of_ble_eq_true rfl⟩ ⟨Nat.zero_le _, Nat.zero_le _⟩ rfl hl.1 rfl rfl (Nat.le_of_ble_eq_true rfl) dX12_livedTo_33 (fun H locs hw => ?_)
  obtain rfl := so hf
  exact q_iret B hw hz hc0 hr hlk dX12_livedTo_36
set_option maxHeartbeats 4000000 in
theorem c_X12_livedTo {l : Launch} {s0 : State} {E : Ev} (G : Gl s0 E) {z : Sh} {h : Hp} {v0 : Int32} {v1 : Int32} {r : Int32} (hf : f_X12_livedTo z h v0 v1 = some r) : Ct l s0 E yX12_livedTo cX12_livedTo 2 (some .int) 1 24 [.int v0, .int v1] z h h (some (.int r)) := by
  refine Ct.of G (by decide) (Nat.le_of_ble_eq_true rfl) ?_
  intro p e s m below meth c ls B hw hz hc0 hr hlk hl
  have B : Bd p s0 s E m c cX12_livedTo 2 RX12 := B
  have hx := B.1
  have hb := B.2.1
  have hl : lv_has ls 2 [(0, .int v0), (1, .int v1)] := hl
  unfold f_X12_livedTo at hf
  refine lv_iload_n hx hb dX12_livedTo_0 rfl (lv_at hl 0 rfl) ?_
  obtain ⟨x1, e, hf⟩ := ob hf
  refine q_callS (As := [.int v0]) (rest := []) (st1 := [.int x1]) (c_X12_lifeOf G e) B hw hz hc0 my_X12_lifeOf mv_X12_lifeOf tw_7_72 ⟨Nat.le_of_ble_eq_true rfl, Nat.le_of_ble_eq_true rfl⟩ ⟨Nat.zero_le _, Nat.zero_le _⟩ rfl hl.1 rfl rfl (Nat.le_of_ble_eq_true rfl) dX12_livedTo_1 (fun H locs hw => ?_)
  refine lv_iload_n hx hb dX12_livedTo_4 rfl (lv_at hl 0 rfl) ?_
  obtain ⟨x2, e, hf⟩ := ob hf
  refine q_callS (As := [.int v0]) (rest := [.int x1]) (st1 := [.int x2, .int x1]) (c_X12_oldOf G e) B hw hz hc0 my_X12_oldOf mv_X12_oldOf tw_7_75 ⟨Nat.le_of_ble_eq_true rfl, Nat.le_of_ble_eq_true rfl⟩ ⟨Nat.zero_le _, Nat.zero_le _⟩ rfl hl.1 rfl rfl (Nat.le_of_ble_eq_true rfl) dX12_livedTo_5 (fun H locs hw => ?_)
  refine lv_iload_n hx hb dX12_livedTo_8 rfl (lv_at hl 0 rfl) ?_
  obtain ⟨x3, e, hf⟩ := ob hf
  refine q_callS (As := [.int v0]) (rest := [.int x2, .int x1]) (st1 := [.int x3, .int x2, .int x1]) (c_X12_yearOf G e) B hw hz hc0 my_X12_yearOf mv_X12_yearOf tw_7_59 ⟨Nat.le_of_ble_eq_true rfl, Nat.le_of_ble_eq_true rfl⟩ ⟨Nat.zero_le _, Nat.zero_le _⟩ rfl hl.1 rfl rfl (Nat.le_of_ble_eq_true rfl) dX12_livedTo_9 (fun H locs hw => ?_)
  refine lv_iconst (v := 1) hx hb dX12_livedTo_12 (by decide) ?_
  refine lv_iadd hx hb dX12_livedTo_13 ?_
  refine lv_iload_n hx hb dX12_livedTo_14 rfl (lv_at hl 1 rfl) ?_
  refine lv_iload_n hx hb dX12_livedTo_15 rfl (lv_at hl 0 rfl) ?_
  obtain ⟨x4, e, hf⟩ := ob hf
  refine q_callS (As := [.int v0]) (rest := [.int v1, .int (x3 + 1), .int x2, .int x1]) (st1 := [.int x4, .int v1, .int (x3 + 1), .int x2, .int x1]) (c_X12_lastOf G e) B hw hz hc0 my_X12_lastOf mv_X12_lastOf tw_7_66 ⟨Nat.le_of_ble_eq_true rfl, Nat.le_of_ble_eq_true rfl⟩ ⟨Nat.zero_le _, Nat.zero_le _⟩ rfl hl.1 rfl rfl (Nat.le_of_ble_eq_true rfl) dX12_livedTo_16 (fun H locs hw => ?_)
  refine lv_iload_n hx hb dX12_livedTo_19 rfl (lv_at hl 1 rfl) ?_
  refine lv_icmp_ne (tgt := 32) hx hb dX12_livedTo_20 (by decide) (fun c5 => ?_) (fun c5 => ?_)
  · have hf := (if_neg c5).symm.trans hf
    refine lv_iconst (v := 1) hx hb dX12_livedTo_32 (by decide) ?_
    exact w_X12_livedTo_33 G B hz hc0 hr hlk  1 v1 (x3 + 1) x2 x1 _ _ _ hw (lv_sub hl [] rfl) hf
  · have hf := (if_pos c5).symm.trans hf
    refine lv_iload_n hx hb dX12_livedTo_23 rfl (lv_at hl 0 rfl) ?_
    obtain ⟨x6, e, hf⟩ := ob hf
    refine q_callS (As := [.int v0]) (rest := [.int v1, .int (x3 + 1), .int x2, .int x1]) (st1 := [.int x6, .int v1, .int (x3 + 1), .int x2, .int x1]) (c_X12_streakOf G e) B hw hz hc0 my_X12_streakOf mv_X12_streakOf tw_7_69 ⟨Nat.le_of_ble_eq_true rfl, Nat.le_of_ble_eq_true rfl⟩ ⟨Nat.zero_le _, Nat.zero_le _⟩ rfl hl.1 rfl rfl (Nat.le_of_ble_eq_true rfl) dX12_livedTo_24 (fun H locs hw => ?_)
    refine lv_iconst (v := 1) hx hb dX12_livedTo_27 (by decide) ?_
    refine lv_iadd hx hb dX12_livedTo_28 ?_
    refine lv_goto (tgt := 33) hx hb dX12_livedTo_29 (by decide) ?_
    exact w_X12_livedTo_33 G B hz hc0 hr hlk  (x6 + 1) v1 (x3 + 1) x2 x1 _ _ _ hw (lv_sub hl [] rfl) hf
/-! SecondLifeModel.drawnTo(II)I -/
def f_X12_drawnTo (n : Nat) (z : Sh) (h : Hp) (v0 : Nat) (v1 : Int32) (v2 : Int32) : Option (Int32 × Hp) :=
  if z.K v0 = 12 then
    (f_X12_yearOf z h v2).bind fun x1 =>
    (f_X12_yearOf z h v2).bind fun x2 =>
    (f_X12_grownTo n z h v0 v1 x2).bind fun (x3, h4) =>
    (f_X12_standOf z h4 2 x1 x3 9 0).bind fun x5 =>
    some (x5, h4)
  else none
theorem k_X12_drawnTo {n : Nat} {z : Sh} {h : Hp} {v0 : Nat} {v1 : Int32} {v2 : Int32} {w : Int32 × Hp} (hf : f_X12_drawnTo n z h v0 v1 v2 = some w) : z.K v0 = 12 := by
  unfold f_X12_drawnTo at hf
  exact (if_some hf).1
set_option maxHeartbeats 4000000 in
theorem c_X12_drawnTo {l : Launch} {s0 : State} {E : Ev} (G : Gl s0 E) {n : Nat} {z : Sh} {h : Hp} {v0 : Nat} {v1 : Int32} {v2 : Int32} {r : Int32} {h' : Hp} (hf : f_X12_drawnTo n z h v0 v1 v2 = some (r, h')) : Ct l s0 E yX12_drawnTo cX12_drawnTo 3 (some .int) 3 71 [.ref v0, .int v1, .int v2] z h h' (some (.int r)) := by
  refine Ct.of G (by decide) (Nat.le_of_ble_eq_true rfl) ?_
  intro p e s m below meth c ls B hw hz hc0 hr hlk hl
  have B : Bd p s0 s E m c cX12_drawnTo 3 RX12 := B
  have hx := B.1
  have hb := B.2.1
  have hl : lv_has ls 3 [(0, .ref v0), (1, .int v1), (2, .int v2)] := hl
  unfold f_X12_drawnTo at hf
  obtain ⟨_, hf⟩ := if_some hf
  refine lv_iconst (v := 2) hx hb dX12_drawnTo_0 (by decide) ?_
  refine lv_iload_n hx hb dX12_drawnTo_1 rfl (lv_at hl 2 rfl) ?_
  obtain ⟨x1, e, hf⟩ := ob hf
  refine q_callS (As := [.int v2]) (rest := [.int 2]) (st1 := [.int x1, .int 2]) (c_X12_yearOf G e) B hw hz hc0 my_X12_yearOf mv_X12_yearOf tw_7_59 ⟨Nat.le_of_ble_eq_true rfl, Nat.le_of_ble_eq_true rfl⟩ ⟨Nat.zero_le _, Nat.zero_le _⟩ rfl hl.1 rfl rfl (Nat.le_of_ble_eq_true rfl) dX12_drawnTo_2 (fun H locs hw => ?_)
  refine lv_aload_n hx hb dX12_drawnTo_5 rfl (lv_at hl 0 rfl) ?_
  refine lv_iload_n hx hb dX12_drawnTo_6 rfl (lv_at hl 1 rfl) ?_
  refine lv_iload_n hx hb dX12_drawnTo_7 rfl (lv_at hl 2 rfl) ?_
  obtain ⟨x2, e, hf⟩ := ob hf
  refine q_callS (As := [.int v2]) (rest := [.int v1, .ref v0, .int x1, .int 2]) (st1 := [.int x2, .int v1, .ref v0, .int x1, .int 2]) (c_X12_yearOf G e) B hw hz hc0 my_X12_yearOf mv_X12_yearOf tw_7_59 ⟨Nat.le_of_ble_eq_true rfl, Nat.le_of_ble_eq_true rfl⟩ ⟨Nat.zero_le _, Nat.zero_le _⟩ rfl hl.1 rfl rfl (Nat.le_of_ble_eq_true rfl) dX12_drawnTo_8 (fun H locs hw => ?_)
  obtain ⟨⟨x3, h4⟩, e, hf⟩ := ob hf
  refine q_callV (As := [.int v1, .int x2]) (rest := [.int x1, .int 2]) (st1 := [.int x3, .int x1, .int 2]) (c_X12_grownTo G e) B hw hz hc0 (k_X12_grownTo e) (by decide) (ci := 12) rfl rfl my_X12_grownTo mv_X12_grownTo tw_7_91 ⟨Nat.le_of_ble_eq_true rfl, Nat.le_of_ble_eq_true rfl⟩ ⟨Nat.zero_le _, Nat.zero_le _⟩ rfl hl.1 rfl rfl (Nat.le_of_ble_eq_true rfl) dX12_drawnTo_11 (fun H locs hw => ?_)
  refine lv_bipush (v := 9) hx hb dX12_drawnTo_14 (by decide) ?_
  refine lv_iconst (v := 0) hx hb dX12_drawnTo_16 (by decide) ?_
  obtain ⟨x5, e, hf⟩ := ob hf
  refine q_callS (As := [.int 2, .int x1, .int x3, .int 9, .int 0]) (rest := []) (st1 := [.int x5]) (c_X12_standOf G e) B hw hz hc0 my_X12_standOf mv_X12_standOf tw_7_52 ⟨Nat.le_of_ble_eq_true rfl, Nat.le_of_ble_eq_true rfl⟩ ⟨Nat.zero_le _, Nat.zero_le _⟩ rfl hl.1 rfl rfl (Nat.le_of_ble_eq_true rfl) dX12_drawnTo_17 (fun H locs hw => ?_)
  obtain ⟨rfl, rfl⟩ := so2 hf
  exact q_iret B hw hz hc0 hr hlk dX12_drawnTo_20
/-! SecondLifeModel.person(II)I -/
def f_X12_person (z : Sh) (h : Hp) (v0 : Nat) (v1 : Int32) (v2 : Int32) : Option (Int32 × Hp) :=
  if z.K v0 = 12 then
    (pI z h 12 v0 0 0).bind fun h1 =>
    (f_X12_isPerson z h1 v0 (Int32.toInt64 v1)).bind fun x2 =>
    if x2 = 0 then
      some (((-99000002) : Int32), h1)
    else
      if v2 = 0 then
        (gR z h1 12 v0 1).bind fun a4 =>
        (ldI z h1 a4 (18 + v1)).bind fun x5 =>
        some (x5, h1)
      else
        if v2 = 1 then
          (gR z h1 12 v0 1).bind fun a6 =>
          (ldI z h1 a6 (24 + v1)).bind fun x7 =>
          some (x7, h1)
        else
          if v2 = 2 then
            (gR z h1 12 v0 1).bind fun a8 =>
            (ldI z h1 a8 (30 + v1)).bind fun x9 =>
            some (x9, h1)
          else
            if v2 = 3 then
              (gR z h1 12 v0 1).bind fun a10 =>
              (ldI z h1 a10 (36 + v1)).bind fun x11 =>
              some (x11, h1)
            else
              if v2 = 4 then
                (gR z h1 12 v0 1).bind fun a12 =>
                (ldI z h1 a12 (42 + v1)).bind fun x13 =>
                some (x13, h1)
              else
                if v2 = 5 then
                  (gR z h1 12 v0 1).bind fun a14 =>
                  (ldI z h1 a14 (48 + v1)).bind fun x15 =>
                  some (x15, h1)
                else
                  if v2 = 6 then
                    (gR z h1 12 v0 1).bind fun a16 =>
                    (ldI z h1 a16 (54 + v1)).bind fun x17 =>
                    some (x17, h1)
                  else
                    if v2 = 7 then
                      (gR z h1 12 v0 1).bind fun a18 =>
                      (ldI z h1 a18 (11 + v1)).bind fun x19 =>
                      some (x19, h1)
                    else
                      if v2 = 8 then
                        (gR z h1 12 v0 1).bind fun a20 =>
                        (ldI z h1 a20 (60 + v1)).bind fun x21 =>
                        some (x21, h1)
                      else
                        some (((-99000002) : Int32), h1)
  else none
theorem k_X12_person {z : Sh} {h : Hp} {v0 : Nat} {v1 : Int32} {v2 : Int32} {w : Int32 × Hp} (hf : f_X12_person z h v0 v1 v2 = some w) : z.K v0 = 12 := by
  unfold f_X12_person at hf
  exact (if_some hf).1
set_option maxHeartbeats 4000000 in
theorem c_X12_person {l : Launch} {s0 : State} {E : Ev} (G : Gl s0 E) {z : Sh} {h : Hp} {v0 : Nat} {v1 : Int32} {v2 : Int32} {r : Int32} {h' : Hp} (hf : f_X12_person z h v0 v1 v2 = some (r, h')) : Ct l s0 E yX12_person cX12_person 3 (some .int) 2 47 [.ref v0, .int v1, .int v2] z h h' (some (.int r)) := by
  refine Ct.of G (by decide) (Nat.le_of_ble_eq_true rfl) ?_
  intro p e s m below meth c ls B hw hz hc0 hr hlk hl
  have B : Bd p s0 s E m c cX12_person 3 RX12 := B
  have hx := B.1
  have hb := B.2.1
  have hl : lv_has ls 3 [(0, .ref v0), (1, .int v1), (2, .int v2)] := hl
  unfold f_X12_person at hf
  obtain ⟨_, hf⟩ := if_some hf
  refine lv_aload_n hx hb dX12_person_0 rfl (lv_at hl 0 rfl) ?_
  refine lv_iconst (v := 0) hx hb dX12_person_1 (by decide) ?_
  obtain ⟨h1, e, hf⟩ := ob hf
  refine q_putI e B hw fd_12_0.1 fd_12_0.2.1 fd_12_0.2.2.1 fd_12_0.2.2.2.1 fd_12_0.2.2.2.2 rfl rfl (tyX12_ok 0 (by decide)) tyX12 tyX12_ok nmX12 tw_6_43 dX12_person_2 (fun H locs hw => ?_)
  refine lv_aload_n hx hb dX12_person_5 rfl (lv_at hl 0 rfl) ?_
  refine lv_iload_n hx hb dX12_person_6 rfl (lv_at hl 1 rfl) ?_
  refine lv_i2l (v := (Int32.toInt64 v1)) hx hb dX12_person_7 rfl ?_
  obtain ⟨x2, e, hf⟩ := ob hf
  refine q_callV (As := [.long (Int32.toInt64 v1)]) (rest := []) (st1 := [.int x2]) (c_X12_isPerson G e) B hw hz hc0 (k_X12_isPerson e) (by decide) (ci := 12) rfl rfl my_X12_isPerson mv_X12_isPerson tw_7_35 ⟨Nat.le_of_ble_eq_true rfl, Nat.le_of_ble_eq_true rfl⟩ ⟨Nat.zero_le _, Nat.zero_le _⟩ rfl hl.1 rfl rfl (Nat.le_of_ble_eq_true rfl) dX12_person_8 (fun H locs hw => ?_)
  refine lv_if_ne (tgt := 17) hx hb dX12_person_11 (by decide) (fun c3 => ?_) (fun c3 => ?_)
  · have hf := (if_neg c3).symm.trans hf
    refine lv_iload_n hx hb dX12_person_17 rfl (lv_at hl 2 rfl) ?_
    by_cases c18_0 : v2 = 0
    · have hf := (if_pos c18_0).symm.trans hf
      refine lv_tableIn (off := 50) (tgt := 68) hx hb dX12_person_18 (by rw [c18_0]; decide) (by rw [c18_0]; decide) (by rw [c18_0]; rfl) (by decide) ?_
      refine lv_aload_n hx hb dX12_person_68 rfl (lv_at hl 0 rfl) ?_
      obtain ⟨a4, e, hf⟩ := ob hf
      refine q_getR e B hw fd_12_1.1 fd_12_1.2.1 fd_12_1.2.2.1 fd_12_1.2.2.2.1 fd_12_1.2.2.2.2 rfl tw_6_44 dX12_person_69 ?_
      refine lv_bipush (v := 18) hx hb dX12_person_72 (by decide) ?_
      refine lv_iload_n hx hb dX12_person_74 rfl (lv_at hl 1 rfl) ?_
      refine lv_iadd hx hb dX12_person_75 ?_
      obtain ⟨x5, e, hf⟩ := ob hf
      refine q_ldI e B hw dX12_person_76 ?_
      obtain ⟨rfl, rfl⟩ := so2 hf
      exact q_iret B hw hz hc0 hr hlk dX12_person_77
    have hf := (if_neg c18_0).symm.trans hf
    by_cases c18_1 : v2 = 1
    · have hf := (if_pos c18_1).symm.trans hf
      refine lv_tableIn (off := 60) (tgt := 78) hx hb dX12_person_18 (by rw [c18_1]; decide) (by rw [c18_1]; decide) (by rw [c18_1]; rfl) (by decide) ?_
      refine lv_aload_n hx hb dX12_person_78 rfl (lv_at hl 0 rfl) ?_
      obtain ⟨a6, e, hf⟩ := ob hf
      refine q_getR e B hw fd_12_1.1 fd_12_1.2.1 fd_12_1.2.2.1 fd_12_1.2.2.2.1 fd_12_1.2.2.2.2 rfl tw_6_44 dX12_person_79 ?_
      refine lv_bipush (v := 24) hx hb dX12_person_82 (by decide) ?_
      refine lv_iload_n hx hb dX12_person_84 rfl (lv_at hl 1 rfl) ?_
      refine lv_iadd hx hb dX12_person_85 ?_
      obtain ⟨x7, e, hf⟩ := ob hf
      refine q_ldI e B hw dX12_person_86 ?_
      obtain ⟨rfl, rfl⟩ := so2 hf
      exact q_iret B hw hz hc0 hr hlk dX12_person_87
    have hf := (if_neg c18_1).symm.trans hf
    by_cases c18_2 : v2 = 2
    · have hf := (if_pos c18_2).symm.trans hf
      refine lv_tableIn (off := 70) (tgt := 88) hx hb dX12_person_18 (by rw [c18_2]; decide) (by rw [c18_2]; decide) (by rw [c18_2]; rfl) (by decide) ?_
      refine lv_aload_n hx hb dX12_person_88 rfl (lv_at hl 0 rfl) ?_
      obtain ⟨a8, e, hf⟩ := ob hf
      refine q_getR e B hw fd_12_1.1 fd_12_1.2.1 fd_12_1.2.2.1 fd_12_1.2.2.2.1 fd_12_1.2.2.2.2 rfl tw_6_44 dX12_person_89 ?_
      refine lv_bipush (v := 30) hx hb dX12_person_92 (by decide) ?_
      refine lv_iload_n hx hb dX12_person_94 rfl (lv_at hl 1 rfl) ?_
      refine lv_iadd hx hb dX12_person_95 ?_
      obtain ⟨x9, e, hf⟩ := ob hf
      refine q_ldI e B hw dX12_person_96 ?_
      obtain ⟨rfl, rfl⟩ := so2 hf
      exact q_iret B hw hz hc0 hr hlk dX12_person_97
    have hf := (if_neg c18_2).symm.trans hf
    by_cases c18_3 : v2 = 3
    · have hf := (if_pos c18_3).symm.trans hf
      refine lv_tableIn (off := 80) (tgt := 98) hx hb dX12_person_18 (by rw [c18_3]; decide) (by rw [c18_3]; decide) (by rw [c18_3]; rfl) (by decide) ?_
      refine lv_aload_n hx hb dX12_person_98 rfl (lv_at hl 0 rfl) ?_
      obtain ⟨a10, e, hf⟩ := ob hf
      refine q_getR e B hw fd_12_1.1 fd_12_1.2.1 fd_12_1.2.2.1 fd_12_1.2.2.2.1 fd_12_1.2.2.2.2 rfl tw_6_44 dX12_person_99 ?_
      refine lv_bipush (v := 36) hx hb dX12_person_102 (by decide) ?_
      refine lv_iload_n hx hb dX12_person_104 rfl (lv_at hl 1 rfl) ?_
      refine lv_iadd hx hb dX12_person_105 ?_
      obtain ⟨x11, e, hf⟩ := ob hf
      refine q_ldI e B hw dX12_person_106 ?_
      obtain ⟨rfl, rfl⟩ := so2 hf
      exact q_iret B hw hz hc0 hr hlk dX12_person_107
    have hf := (if_neg c18_3).symm.trans hf
    by_cases c18_4 : v2 = 4
    · have hf := (if_pos c18_4).symm.trans hf
      refine lv_tableIn (off := 90) (tgt := 108) hx hb dX12_person_18 (by rw [c18_4]; decide) (by rw [c18_4]; decide) (by rw [c18_4]; rfl) (by decide) ?_
      refine lv_aload_n hx hb dX12_person_108 rfl (lv_at hl 0 rfl) ?_
      obtain ⟨a12, e, hf⟩ := ob hf
      refine q_getR e B hw fd_12_1.1 fd_12_1.2.1 fd_12_1.2.2.1 fd_12_1.2.2.2.1 fd_12_1.2.2.2.2 rfl tw_6_44 dX12_person_109 ?_
      refine lv_bipush (v := 42) hx hb dX12_person_112 (by decide) ?_
      refine lv_iload_n hx hb dX12_person_114 rfl (lv_at hl 1 rfl) ?_
      refine lv_iadd hx hb dX12_person_115 ?_
      obtain ⟨x13, e, hf⟩ := ob hf
      refine q_ldI e B hw dX12_person_116 ?_
      obtain ⟨rfl, rfl⟩ := so2 hf
      exact q_iret B hw hz hc0 hr hlk dX12_person_117
    have hf := (if_neg c18_4).symm.trans hf
    by_cases c18_5 : v2 = 5
    · have hf := (if_pos c18_5).symm.trans hf
      refine lv_tableIn (off := 100) (tgt := 118) hx hb dX12_person_18 (by rw [c18_5]; decide) (by rw [c18_5]; decide) (by rw [c18_5]; rfl) (by decide) ?_
      refine lv_aload_n hx hb dX12_person_118 rfl (lv_at hl 0 rfl) ?_
      obtain ⟨a14, e, hf⟩ := ob hf
      refine q_getR e B hw fd_12_1.1 fd_12_1.2.1 fd_12_1.2.2.1 fd_12_1.2.2.2.1 fd_12_1.2.2.2.2 rfl tw_6_44 dX12_person_119 ?_
      refine lv_bipush (v := 48) hx hb dX12_person_122 (by decide) ?_
      refine lv_iload_n hx hb dX12_person_124 rfl (lv_at hl 1 rfl) ?_
      refine lv_iadd hx hb dX12_person_125 ?_
      obtain ⟨x15, e, hf⟩ := ob hf
      refine q_ldI e B hw dX12_person_126 ?_
      obtain ⟨rfl, rfl⟩ := so2 hf
      exact q_iret B hw hz hc0 hr hlk dX12_person_127
    have hf := (if_neg c18_5).symm.trans hf
    by_cases c18_6 : v2 = 6
    · have hf := (if_pos c18_6).symm.trans hf
      refine lv_tableIn (off := 110) (tgt := 128) hx hb dX12_person_18 (by rw [c18_6]; decide) (by rw [c18_6]; decide) (by rw [c18_6]; rfl) (by decide) ?_
      refine lv_aload_n hx hb dX12_person_128 rfl (lv_at hl 0 rfl) ?_
      obtain ⟨a16, e, hf⟩ := ob hf
      refine q_getR e B hw fd_12_1.1 fd_12_1.2.1 fd_12_1.2.2.1 fd_12_1.2.2.2.1 fd_12_1.2.2.2.2 rfl tw_6_44 dX12_person_129 ?_
      refine lv_bipush (v := 54) hx hb dX12_person_132 (by decide) ?_
      refine lv_iload_n hx hb dX12_person_134 rfl (lv_at hl 1 rfl) ?_
      refine lv_iadd hx hb dX12_person_135 ?_
      obtain ⟨x17, e, hf⟩ := ob hf
      refine q_ldI e B hw dX12_person_136 ?_
      obtain ⟨rfl, rfl⟩ := so2 hf
      exact q_iret B hw hz hc0 hr hlk dX12_person_137
    have hf := (if_neg c18_6).symm.trans hf
    by_cases c18_7 : v2 = 7
    · have hf := (if_pos c18_7).symm.trans hf
      refine lv_tableIn (off := 120) (tgt := 138) hx hb dX12_person_18 (by rw [c18_7]; decide) (by rw [c18_7]; decide) (by rw [c18_7]; rfl) (by decide) ?_
      refine lv_aload_n hx hb dX12_person_138 rfl (lv_at hl 0 rfl) ?_
      obtain ⟨a18, e, hf⟩ := ob hf
      refine q_getR e B hw fd_12_1.1 fd_12_1.2.1 fd_12_1.2.2.1 fd_12_1.2.2.2.1 fd_12_1.2.2.2.2 rfl tw_6_44 dX12_person_139 ?_
      refine lv_bipush (v := 11) hx hb dX12_person_142 (by decide) ?_
      refine lv_iload_n hx hb dX12_person_144 rfl (lv_at hl 1 rfl) ?_
      refine lv_iadd hx hb dX12_person_145 ?_
      obtain ⟨x19, e, hf⟩ := ob hf
      refine q_ldI e B hw dX12_person_146 ?_
      obtain ⟨rfl, rfl⟩ := so2 hf
      exact q_iret B hw hz hc0 hr hlk dX12_person_147
    have hf := (if_neg c18_7).symm.trans hf
    by_cases c18_8 : v2 = 8
    · have hf := (if_pos c18_8).symm.trans hf
      refine lv_tableIn (off := 130) (tgt := 148) hx hb dX12_person_18 (by rw [c18_8]; decide) (by rw [c18_8]; decide) (by rw [c18_8]; rfl) (by decide) ?_
      refine lv_aload_n hx hb dX12_person_148 rfl (lv_at hl 0 rfl) ?_
      obtain ⟨a20, e, hf⟩ := ob hf
      refine q_getR e B hw fd_12_1.1 fd_12_1.2.1 fd_12_1.2.2.1 fd_12_1.2.2.2.1 fd_12_1.2.2.2.2 rfl tw_6_44 dX12_person_149 ?_
      refine lv_bipush (v := 60) hx hb dX12_person_152 (by decide) ?_
      refine lv_iload_n hx hb dX12_person_154 rfl (lv_at hl 1 rfl) ?_
      refine lv_iadd hx hb dX12_person_155 ?_
      obtain ⟨x21, e, hf⟩ := ob hf
      refine q_ldI e B hw dX12_person_156 ?_
      obtain ⟨rfl, rfl⟩ := so2 hf
      exact q_iret B hw hz hc0 hr hlk dX12_person_157
    have hf := (if_neg c18_8).symm.trans hf
    refine lv_tableOut (tgt := 158) hx hb dX12_person_18 (sw_out (fun k h1 h2 => ?_)) (by decide) ?_
    · rcases (show k = (0) ∨ k = (1) ∨ k = (2) ∨ k = (3) ∨ k = (4) ∨ k = (5) ∨ k = (6) ∨ k = (7) ∨ k = (8) by omega) with rfl | rfl | rfl | rfl | rfl | rfl | rfl | rfl | rfl
      · exact fun q => c18_0 (Int32.toInt_inj.mp q)
      · exact fun q => c18_1 (Int32.toInt_inj.mp q)
      · exact fun q => c18_2 (Int32.toInt_inj.mp q)
      · exact fun q => c18_3 (Int32.toInt_inj.mp q)
      · exact fun q => c18_4 (Int32.toInt_inj.mp q)
      · exact fun q => c18_5 (Int32.toInt_inj.mp q)
      · exact fun q => c18_6 (Int32.toInt_inj.mp q)
      · exact fun q => c18_7 (Int32.toInt_inj.mp q)
      · exact fun q => c18_8 (Int32.toInt_inj.mp q)
    refine lv_ldc hx hb B.2.2.2.1 (B.w tw_7_39 rfl) dX12_person_158 ?_
    obtain ⟨rfl, rfl⟩ := so2 hf
    exact q_iret B hw hz hc0 hr hlk dX12_person_160
  · have hf := (if_pos c3).symm.trans hf
    refine lv_ldc hx hb B.2.2.2.1 (B.w tw_7_39 rfl) dX12_person_14 ?_
    obtain ⟨rfl, rfl⟩ := so2 hf
    exact q_iret B hw hz hc0 hr hlk dX12_person_16
/-! SecondLifeModel.worth(II)I -/
def f_X12_worth (n : Nat) (z : Sh) (h : Hp) (v0 : Nat) (v1 : Int32) (v2 : Int32) : Option (Int32 × Hp) :=
  if z.K v0 = 12 then
    (pI z h 12 v0 0 0).bind fun h1 =>
    (f_X12_isPerson z h1 v0 (Int32.toInt64 v1)).bind fun x2 =>
    if x2 = 0 then
      some (((-99000002) : Int32), h1)
    else
      (f_X12_isTrade z h1 v0 (Int32.toInt64 v2)).bind fun x4 =>
      if x4 = 0 then
        some (((-99000002) : Int32), h1)
      else
        (f_X12_standNow z h1 v0 v1).bind fun x6 =>
        (f_X12_isOver z h1 v0 x6).bind fun x7 =>
        if x7 = 0 then
          (gR z h1 12 v0 1).bind fun a9 =>
          (ldI z h1 a9 (54 + v1)).bind fun x10 =>
          (f_X12_standNow z h1 v0 v1).bind fun x11 =>
          (f_X12_worthOf n z h1 v0 x10 x11 v2).bind fun (x12, h13) =>
          some (x12, h13)
        else
          some (((-99000005) : Int32), h1)
  else none
theorem k_X12_worth {n : Nat} {z : Sh} {h : Hp} {v0 : Nat} {v1 : Int32} {v2 : Int32} {w : Int32 × Hp} (hf : f_X12_worth n z h v0 v1 v2 = some w) : z.K v0 = 12 := by
  unfold f_X12_worth at hf
  exact (if_some hf).1
set_option maxHeartbeats 4000000 in
theorem c_X12_worth {l : Launch} {s0 : State} {E : Ev} (G : Gl s0 E) {n : Nat} {z : Sh} {h : Hp} {v0 : Nat} {v1 : Int32} {v2 : Int32} {r : Int32} {h' : Hp} (hf : f_X12_worth n z h v0 v1 v2 = some (r, h')) : Ct l s0 E yX12_worth cX12_worth 3 (some .int) 3 72 [.ref v0, .int v1, .int v2] z h h' (some (.int r)) := by
  refine Ct.of G (by decide) (Nat.le_of_ble_eq_true rfl) ?_
  intro p e s m below meth c ls B hw hz hc0 hr hlk hl
  have B : Bd p s0 s E m c cX12_worth 3 RX12 := B
  have hx := B.1
  have hb := B.2.1
  have hl : lv_has ls 3 [(0, .ref v0), (1, .int v1), (2, .int v2)] := hl
  unfold f_X12_worth at hf
  obtain ⟨_, hf⟩ := if_some hf
  refine lv_aload_n hx hb dX12_worth_0 rfl (lv_at hl 0 rfl) ?_
  refine lv_iconst (v := 0) hx hb dX12_worth_1 (by decide) ?_
  obtain ⟨h1, e, hf⟩ := ob hf
  refine q_putI e B hw fd_12_0.1 fd_12_0.2.1 fd_12_0.2.2.1 fd_12_0.2.2.2.1 fd_12_0.2.2.2.2 rfl rfl (tyX12_ok 0 (by decide)) tyX12 tyX12_ok nmX12 tw_6_43 dX12_worth_2 (fun H locs hw => ?_)
  refine lv_aload_n hx hb dX12_worth_5 rfl (lv_at hl 0 rfl) ?_
  refine lv_iload_n hx hb dX12_worth_6 rfl (lv_at hl 1 rfl) ?_
  refine lv_i2l (v := (Int32.toInt64 v1)) hx hb dX12_worth_7 rfl ?_
  obtain ⟨x2, e, hf⟩ := ob hf
  refine q_callV (As := [.long (Int32.toInt64 v1)]) (rest := []) (st1 := [.int x2]) (c_X12_isPerson G e) B hw hz hc0 (k_X12_isPerson e) (by decide) (ci := 12) rfl rfl my_X12_isPerson mv_X12_isPerson tw_7_35 ⟨Nat.le_of_ble_eq_true rfl, Nat.le_of_ble_eq_true rfl⟩ ⟨Nat.zero_le _, Nat.zero_le _⟩ rfl hl.1 rfl rfl (Nat.le_of_ble_eq_true rfl) dX12_worth_8 (fun H locs hw => ?_)
  refine lv_if_eq (tgt := 23) hx hb dX12_worth_11 (by decide) (fun c3 => ?_) (fun c3 => ?_)
  · have hf := (if_pos c3).symm.trans hf
    refine lv_ldc hx hb B.2.2.2.1 (B.w tw_7_39 rfl) dX12_worth_23 ?_
    obtain ⟨rfl, rfl⟩ := so2 hf
    exact q_iret B hw hz hc0 hr hlk dX12_worth_25
  · have hf := (if_neg c3).symm.trans hf
    refine lv_aload_n hx hb dX12_worth_14 rfl (lv_at hl 0 rfl) ?_
    refine lv_iload_n hx hb dX12_worth_15 rfl (lv_at hl 2 rfl) ?_
    refine lv_i2l (v := (Int32.toInt64 v2)) hx hb dX12_worth_16 rfl ?_
    obtain ⟨x4, e, hf⟩ := ob hf
    refine q_callV (As := [.long (Int32.toInt64 v2)]) (rest := []) (st1 := [.int x4]) (c_X12_isTrade G e) B hw hz hc0 (k_X12_isTrade e) (by decide) (ci := 12) rfl rfl my_X12_isTrade mv_X12_isTrade tw_7_44 ⟨Nat.le_of_ble_eq_true rfl, Nat.le_of_ble_eq_true rfl⟩ ⟨Nat.zero_le _, Nat.zero_le _⟩ rfl hl.1 rfl rfl (Nat.le_of_ble_eq_true rfl) dX12_worth_17 (fun H locs hw => ?_)
    refine lv_if_ne (tgt := 26) hx hb dX12_worth_20 (by decide) (fun c5 => ?_) (fun c5 => ?_)
    · have hf := (if_neg c5).symm.trans hf
      refine lv_aload_n hx hb dX12_worth_26 rfl (lv_at hl 0 rfl) ?_
      refine lv_aload_n hx hb dX12_worth_27 rfl (lv_at hl 0 rfl) ?_
      refine lv_iload_n hx hb dX12_worth_28 rfl (lv_at hl 1 rfl) ?_
      obtain ⟨x6, e, hf⟩ := ob hf
      refine q_callV (As := [.int v1]) (rest := [.ref v0]) (st1 := [.int x6, .ref v0]) (c_X12_standNow G e) B hw hz hc0 (k_X12_standNow e) (by decide) (ci := 12) rfl rfl my_X12_standNow mv_X12_standNow tw_7_48 ⟨Nat.le_of_ble_eq_true rfl, Nat.le_of_ble_eq_true rfl⟩ ⟨Nat.zero_le _, Nat.zero_le _⟩ rfl hl.1 rfl rfl (Nat.le_of_ble_eq_true rfl) dX12_worth_29 (fun H locs hw => ?_)
      obtain ⟨x7, e, hf⟩ := ob hf
      refine q_callV (As := [.int x6]) (rest := []) (st1 := [.int x7]) (c_X12_isOver G e) B hw hz hc0 (k_X12_isOver e) (by decide) (ci := 12) rfl rfl my_X12_isOver mv_X12_isOver tw_7_55 ⟨Nat.le_of_ble_eq_true rfl, Nat.le_of_ble_eq_true rfl⟩ ⟨Nat.zero_le _, Nat.zero_le _⟩ rfl hl.1 rfl rfl (Nat.le_of_ble_eq_true rfl) dX12_worth_32 (fun H locs hw => ?_)
      refine lv_if_eq (tgt := 43) hx hb dX12_worth_35 (by decide) (fun c8 => ?_) (fun c8 => ?_)
      · have hf := (if_pos c8).symm.trans hf
        refine lv_aload_n hx hb dX12_worth_43 rfl (lv_at hl 0 rfl) ?_
        refine lv_aload_n hx hb dX12_worth_44 rfl (lv_at hl 0 rfl) ?_
        obtain ⟨a9, e, hf⟩ := ob hf
        refine q_getR e B hw fd_12_1.1 fd_12_1.2.1 fd_12_1.2.2.1 fd_12_1.2.2.2.1 fd_12_1.2.2.2.2 rfl tw_6_44 dX12_worth_45 ?_
        refine lv_bipush (v := 54) hx hb dX12_worth_48 (by decide) ?_
        refine lv_iload_n hx hb dX12_worth_50 rfl (lv_at hl 1 rfl) ?_
        refine lv_iadd hx hb dX12_worth_51 ?_
        obtain ⟨x10, e, hf⟩ := ob hf
        refine q_ldI e B hw dX12_worth_52 ?_
        refine lv_aload_n hx hb dX12_worth_53 rfl (lv_at hl 0 rfl) ?_
        refine lv_iload_n hx hb dX12_worth_54 rfl (lv_at hl 1 rfl) ?_
        obtain ⟨x11, e, hf⟩ := ob hf
        refine q_callV (As := [.int v1]) (rest := [.int x10, .ref v0]) (st1 := [.int x11, .int x10, .ref v0]) (c_X12_standNow G e) B hw hz hc0 (k_X12_standNow e) (by decide) (ci := 12) rfl rfl my_X12_standNow mv_X12_standNow tw_7_48 ⟨Nat.le_of_ble_eq_true rfl, Nat.le_of_ble_eq_true rfl⟩ ⟨Nat.zero_le _, Nat.zero_le _⟩ rfl hl.1 rfl rfl (Nat.le_of_ble_eq_true rfl) dX12_worth_55 (fun H locs hw => ?_)
        refine lv_iload_n hx hb dX12_worth_58 rfl (lv_at hl 2 rfl) ?_
        obtain ⟨⟨x12, h13⟩, e, hf⟩ := ob hf
        refine q_callV (As := [.int x10, .int x11, .int v2]) (rest := []) (st1 := [.int x12]) (c_X12_worthOf G e) B hw hz hc0 (k_X12_worthOf e) (by decide) (ci := 12) rfl rfl my_X12_worthOf mv_X12_worthOf tw_7_62 ⟨Nat.le_of_ble_eq_true rfl, Nat.le_of_ble_eq_true rfl⟩ ⟨Nat.zero_le _, Nat.zero_le _⟩ rfl hl.1 rfl rfl (Nat.le_of_ble_eq_true rfl) dX12_worth_59 (fun H locs hw => ?_)
        obtain ⟨rfl, rfl⟩ := so2 hf
        exact q_iret B hw hz hc0 hr hlk dX12_worth_62
      · have hf := (if_neg c8).symm.trans hf
        refine lv_ldc hx hb B.2.2.2.1 (B.w tw_6_157 rfl) dX12_worth_38 ?_
        refine lv_goto (tgt := 62) hx hb dX12_worth_40 (by decide) ?_
        obtain ⟨rfl, rfl⟩ := so2 hf
        exact q_iret B hw hz hc0 hr hlk dX12_worth_62
    · have hf := (if_pos c5).symm.trans hf
      refine lv_ldc hx hb B.2.2.2.1 (B.w tw_7_39 rfl) dX12_worth_23 ?_
      obtain ⟨rfl, rfl⟩ := so2 hf
      exact q_iret B hw hz hc0 hr hlk dX12_worth_25
/-! SecondLifeModel.grown(I)I -/
def f_X12_grown (n : Nat) (z : Sh) (h : Hp) (v0 : Nat) (v1 : Int32) : Option (Int32 × Hp) :=
  if z.K v0 = 12 then
    (pI z h 12 v0 0 0).bind fun h1 =>
    (f_X12_isPerson z h1 v0 (Int32.toInt64 v1)).bind fun x2 =>
    if x2 = 0 then
      some (((-99000002) : Int32), h1)
    else
      (gR z h1 12 v0 1).bind fun a4 =>
      (ldI z h1 a4 (24 + v1)).bind fun x5 =>
      if x5 = 2 then
        some (((-99000005) : Int32), h1)
      else
        (gR z h1 12 v0 1).bind fun a7 =>
        (ldI z h1 a7 (54 + v1)).bind fun x8 =>
        (gR z h1 12 v0 1).bind fun a9 =>
        (ldI z h1 a9 (18 + v1)).bind fun x10 =>
        (f_X12_grownTo n z h1 v0 x8 x10).bind fun (x11, h12) =>
        some (x11, h12)
  else none
theorem k_X12_grown {n : Nat} {z : Sh} {h : Hp} {v0 : Nat} {v1 : Int32} {w : Int32 × Hp} (hf : f_X12_grown n z h v0 v1 = some w) : z.K v0 = 12 := by
  unfold f_X12_grown at hf
  exact (if_some hf).1
set_option maxHeartbeats 4000000 in
theorem c_X12_grown {l : Launch} {s0 : State} {E : Ev} (G : Gl s0 E) {n : Nat} {z : Sh} {h : Hp} {v0 : Nat} {v1 : Int32} {r : Int32} {h' : Hp} (hf : f_X12_grown n z h v0 v1 = some (r, h')) : Ct l s0 E yX12_grown cX12_grown 2 (some .int) 3 71 [.ref v0, .int v1] z h h' (some (.int r)) := by
  refine Ct.of G (by decide) (Nat.le_of_ble_eq_true rfl) ?_
  intro p e s m below meth c ls B hw hz hc0 hr hlk hl
  have B : Bd p s0 s E m c cX12_grown 2 RX12 := B
  have hx := B.1
  have hb := B.2.1
  have hl : lv_has ls 2 [(0, .ref v0), (1, .int v1)] := hl
  unfold f_X12_grown at hf
  obtain ⟨_, hf⟩ := if_some hf
  refine lv_aload_n hx hb dX12_grown_0 rfl (lv_at hl 0 rfl) ?_
  refine lv_iconst (v := 0) hx hb dX12_grown_1 (by decide) ?_
  obtain ⟨h1, e, hf⟩ := ob hf
  refine q_putI e B hw fd_12_0.1 fd_12_0.2.1 fd_12_0.2.2.1 fd_12_0.2.2.2.1 fd_12_0.2.2.2.2 rfl rfl (tyX12_ok 0 (by decide)) tyX12 tyX12_ok nmX12 tw_6_43 dX12_grown_2 (fun H locs hw => ?_)
  refine lv_aload_n hx hb dX12_grown_5 rfl (lv_at hl 0 rfl) ?_
  refine lv_iload_n hx hb dX12_grown_6 rfl (lv_at hl 1 rfl) ?_
  refine lv_i2l (v := (Int32.toInt64 v1)) hx hb dX12_grown_7 rfl ?_
  obtain ⟨x2, e, hf⟩ := ob hf
  refine q_callV (As := [.long (Int32.toInt64 v1)]) (rest := []) (st1 := [.int x2]) (c_X12_isPerson G e) B hw hz hc0 (k_X12_isPerson e) (by decide) (ci := 12) rfl rfl my_X12_isPerson mv_X12_isPerson tw_7_35 ⟨Nat.le_of_ble_eq_true rfl, Nat.le_of_ble_eq_true rfl⟩ ⟨Nat.zero_le _, Nat.zero_le _⟩ rfl hl.1 rfl rfl (Nat.le_of_ble_eq_true rfl) dX12_grown_8 (fun H locs hw => ?_)
  refine lv_if_ne (tgt := 19) hx hb dX12_grown_11 (by decide) (fun c3 => ?_) (fun c3 => ?_)
  · have hf := (if_neg c3).symm.trans hf
    refine lv_aload_n hx hb dX12_grown_19 rfl (lv_at hl 0 rfl) ?_
    obtain ⟨a4, e, hf⟩ := ob hf
    refine q_getR e B hw fd_12_1.1 fd_12_1.2.1 fd_12_1.2.2.1 fd_12_1.2.2.2.1 fd_12_1.2.2.2.2 rfl tw_6_44 dX12_grown_20 ?_
    refine lv_bipush (v := 24) hx hb dX12_grown_23 (by decide) ?_
    refine lv_iload_n hx hb dX12_grown_25 rfl (lv_at hl 1 rfl) ?_
    refine lv_iadd hx hb dX12_grown_26 ?_
    obtain ⟨x5, e, hf⟩ := ob hf
    refine q_ldI e B hw dX12_grown_27 ?_
    refine lv_iconst (v := 2) hx hb dX12_grown_28 (by decide) ?_
    refine lv_icmp_ne (tgt := 37) hx hb dX12_grown_29 (by decide) (fun c6 => ?_) (fun c6 => ?_)
    · have hf := (if_neg c6).symm.trans hf
      refine lv_aload_n hx hb dX12_grown_37 rfl (lv_at hl 0 rfl) ?_
      refine lv_aload_n hx hb dX12_grown_38 rfl (lv_at hl 0 rfl) ?_
      obtain ⟨a7, e, hf⟩ := ob hf
      refine q_getR e B hw fd_12_1.1 fd_12_1.2.1 fd_12_1.2.2.1 fd_12_1.2.2.2.1 fd_12_1.2.2.2.2 rfl tw_6_44 dX12_grown_39 ?_
      refine lv_bipush (v := 54) hx hb dX12_grown_42 (by decide) ?_
      refine lv_iload_n hx hb dX12_grown_44 rfl (lv_at hl 1 rfl) ?_
      refine lv_iadd hx hb dX12_grown_45 ?_
      obtain ⟨x8, e, hf⟩ := ob hf
      refine q_ldI e B hw dX12_grown_46 ?_
      refine lv_aload_n hx hb dX12_grown_47 rfl (lv_at hl 0 rfl) ?_
      obtain ⟨a9, e, hf⟩ := ob hf
      refine q_getR e B hw fd_12_1.1 fd_12_1.2.1 fd_12_1.2.2.1 fd_12_1.2.2.2.1 fd_12_1.2.2.2.2 rfl tw_6_44 dX12_grown_48 ?_
      refine lv_bipush (v := 18) hx hb dX12_grown_51 (by decide) ?_
      refine lv_iload_n hx hb dX12_grown_53 rfl (lv_at hl 1 rfl) ?_
      refine lv_iadd hx hb dX12_grown_54 ?_
      obtain ⟨x10, e, hf⟩ := ob hf
      refine q_ldI e B hw dX12_grown_55 ?_
      obtain ⟨⟨x11, h12⟩, e, hf⟩ := ob hf
      refine q_callV (As := [.int x8, .int x10]) (rest := []) (st1 := [.int x11]) (c_X12_grownTo G e) B hw hz hc0 (k_X12_grownTo e) (by decide) (ci := 12) rfl rfl my_X12_grownTo mv_X12_grownTo tw_7_91 ⟨Nat.le_of_ble_eq_true rfl, Nat.le_of_ble_eq_true rfl⟩ ⟨Nat.zero_le _, Nat.zero_le _⟩ rfl hl.1 rfl rfl (Nat.le_of_ble_eq_true rfl) dX12_grown_56 (fun H locs hw => ?_)
      obtain ⟨rfl, rfl⟩ := so2 hf
      exact q_iret B hw hz hc0 hr hlk dX12_grown_59
    · have hf := (if_pos c6).symm.trans hf
      refine lv_ldc hx hb B.2.2.2.1 (B.w tw_6_157 rfl) dX12_grown_32 ?_
      refine lv_goto (tgt := 59) hx hb dX12_grown_34 (by decide) ?_
      obtain ⟨rfl, rfl⟩ := so2 hf
      exact q_iret B hw hz hc0 hr hlk dX12_grown_59
  · have hf := (if_pos c3).symm.trans hf
    refine lv_ldc hx hb B.2.2.2.1 (B.w tw_7_39 rfl) dX12_grown_14 ?_
    refine lv_goto (tgt := 59) hx hb dX12_grown_16 (by decide) ?_
    obtain ⟨rfl, rfl⟩ := so2 hf
    exact q_iret B hw hz hc0 hr hlk dX12_grown_59
