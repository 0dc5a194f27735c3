/-! SecondLifeModel.live(II)I -/
def f_X12_live (n : Nat) (z : Sh) (h : Hp) (v0 : Nat) (v1 : Int32) (v2 : Int32) : Option (Int32 × Hp) :=
  if z.K v0 = 12 then
    (pI z h 12 v0 0 0).bind fun h1 =>
    (f_X12_whyLive z h1 v0 (Int32.toInt64 v1) (Int32.toInt64 v2)).bind fun x2 =>
    if x2 = 0 then
      (f_X12_keeps n z h1 v0).bind fun h4 =>
      (f_X12_lives n z h4 v0 v1 v2).bind fun (x5, h6) =>
      (f_X12_notes n z h6 v0).bind fun h7 =>
      some (x5, h7)
    else
      some (((-99000010) - x2), h1)
  else none
theorem k_X12_live {n : Nat} {z : Sh} {h : Hp} {v0 : Nat} {v1 : Int32} {v2 : Int32} {w : Int32 × Hp} (hf : f_X12_live n z h v0 v1 v2 = some w) : z.K v0 = 12 := by
  unfold f_X12_live at hf
  exact (if_some hf).1
set_option maxHeartbeats 4000000 in
theorem c_X12_live {l : Launch} {s0 : State} {E : Ev} (G : Gl s0 E) {n : Nat} {z : Sh} {h : Hp} {v0 : Nat} {v1 : Int32} {v2 : Int32} {r : Int32} {h' : Hp} (hf : f_X12_live n z h v0 v1 v2 = some (r, h')) : Ct l s0 E yX12_live cX12_live 5 (some .int) 4 96 [.ref v0, .int v1, .int v2] z h h' (some (.int r)) := by
  refine Ct.of G (by decide) (Nat.le_of_ble_eq_true rfl) ?_
  intro p e s m below meth c ls B hw hz hc0 hr hlk hl
  have B : Bd p s0 s E m c cX12_live 5 RX12 := B
  have hx := B.1
  have hb := B.2.1
  have hl : lv_has ls 5 [(0, .ref v0), (1, .int v1), (2, .int v2)] := hl
  unfold f_X12_live at hf
  obtain ⟨_, hf⟩ := if_some hf
  refine lv_aload_n hx hb dX12_live_0 rfl (lv_at hl 0 rfl) ?_
  refine lv_iconst (v := 0) hx hb dX12_live_1 (by decide) ?_
  obtain ⟨h1, e, hf⟩ := ob hf
  refine q_putI e B hw fd_12_0.1 fd_12_0.2.1 fd_12_0.2.2.1 fd_12_0.2.2.2.1 fd_12_0.2.2.2.2 rfl rfl (tyX12_ok 0 (by decide)) tyX12 tyX12_ok nmX12 tw_6_43 dX12_live_2 (fun H locs hw => ?_)
  refine lv_aload_n hx hb dX12_live_5 rfl (lv_at hl 0 rfl) ?_
  refine lv_iload_n hx hb dX12_live_6 rfl (lv_at hl 1 rfl) ?_
  refine lv_i2l (v := (Int32.toInt64 v1)) hx hb dX12_live_7 rfl ?_
  refine lv_iload_n hx hb dX12_live_8 rfl (lv_at hl 2 rfl) ?_
  refine lv_i2l (v := (Int32.toInt64 v2)) hx hb dX12_live_9 rfl ?_
  obtain ⟨x2, e, hf⟩ := ob hf
  refine q_callV (As := [.long (Int32.toInt64 v1), .long (Int32.toInt64 v2)]) (rest := []) (st1 := [.int x2]) (c_X12_whyLive G e) B hw hz hc0 (k_X12_whyLive e) (by decide) (ci := 12) rfl rfl my_X12_whyLive mv_X12_whyLive tw_7_99 ⟨Nat.le_of_ble_eq_true rfl, Nat.le_of_ble_eq_true rfl⟩ ⟨Nat.zero_le _, Nat.zero_le _⟩ rfl hl.1 rfl rfl (Nat.le_of_ble_eq_true rfl) dX12_live_10 (fun H locs hw => ?_)
  refine lv_istore_n (lv' := [(3, .int x2), (0, .ref v0), (1, .int v1), (2, .int v2)]) hx hb dX12_live_13 rfl hl (by decide) rfl (fun ls hl => ?_)
  refine lv_iload_n hx hb dX12_live_14 rfl (lv_at hl 0 rfl) ?_
  refine lv_if_eq (tgt := 24) hx hb dX12_live_15 (by decide) (fun c3 => ?_) (fun c3 => ?_)
  · have hf := (if_pos c3).symm.trans hf
    refine lv_aload_n hx hb dX12_live_24 rfl (lv_at hl 1 rfl) ?_
    obtain ⟨h4, e, hf⟩ := ob hf
    refine q_callV (As := []) (rest := []) (st1 := []) (c_X12_keeps G e) B hw hz hc0 (k_X12_keeps e) (by decide) (ci := 12) rfl rfl my_X12_keeps mv_X12_keeps tw_7_104 ⟨Nat.le_of_ble_eq_true rfl, Nat.le_of_ble_eq_true rfl⟩ ⟨Nat.zero_le _, Nat.zero_le _⟩ rfl hl.1 rfl rfl (Nat.le_of_ble_eq_true rfl) dX12_live_25 (fun H locs hw => ?_)
    refine lv_aload_n hx hb dX12_live_28 rfl (lv_at hl 1 rfl) ?_
    refine lv_iload_n hx hb dX12_live_29 rfl (lv_at hl 2 rfl) ?_
    refine lv_iload_n hx hb dX12_live_30 rfl (lv_at hl 3 rfl) ?_
    obtain ⟨⟨x5, h6⟩, e, hf⟩ := ob hf
    refine q_callV (As := [.int v1, .int v2]) (rest := []) (st1 := [.int x5]) (c_X12_lives G e) B hw hz hc0 (k_X12_lives e) (by decide) (ci := 12) rfl rfl my_X12_lives mv_X12_lives tw_7_108 ⟨Nat.le_of_ble_eq_true rfl, Nat.le_of_ble_eq_true rfl⟩ ⟨Nat.zero_le _, Nat.zero_le _⟩ rfl hl.1 rfl rfl (Nat.le_of_ble_eq_true rfl) dX12_live_31 (fun H locs hw => ?_)
    refine lv_istore (lv' := [(4, .int x5), (3, .int x2), (0, .ref v0), (1, .int v1), (2, .int v2)]) hx hb dX12_live_34 hl (by decide) rfl (fun ls hl => ?_)
    refine lv_aload_n hx hb dX12_live_36 rfl (lv_at hl 2 rfl) ?_
    obtain ⟨h7, e, hf⟩ := ob hf
    refine q_callV (As := []) (rest := []) (st1 := []) (c_X12_notes G e) B hw hz hc0 (k_X12_notes e) (by decide) (ci := 12) rfl rfl my_X12_notes mv_X12_notes tw_7_119 ⟨Nat.le_of_ble_eq_true rfl, Nat.le_of_ble_eq_true rfl⟩ ⟨Nat.zero_le _, Nat.zero_le _⟩ rfl hl.1 rfl rfl (Nat.le_of_ble_eq_true rfl) dX12_live_37 (fun H locs hw => ?_)
    refine lv_iload hx hb dX12_live_40 (lv_at hl 0 rfl) ?_
    obtain ⟨rfl, rfl⟩ := so2 hf
    exact q_iret B hw hz hc0 hr hlk dX12_live_42
  · have hf := (if_neg c3).symm.trans hf
    refine lv_ldcw hx hb B.2.2.2.1 (B.w tw_7_103 rfl) dX12_live_18 ?_
    refine lv_iload_n hx hb dX12_live_21 rfl (lv_at hl 0 rfl) ?_
    refine lv_isub hx hb dX12_live_22 ?_
    obtain ⟨rfl, rfl⟩ := so2 hf
    exact q_iret B hw hz hc0 hr hlk dX12_live_23
/-! SecondLifeModel.draw(I)I -/
def f_X12_draw (n : Nat) (z : Sh) (h : Hp) (v0 : Nat) (v1 : Int32) : Option (Int32 × Hp) :=
  if z.K v0 = 12 then
    (pI z h 12 v0 0 0).bind fun h1 =>
    (f_X12_whyDraw z h1 v0 (Int32.toInt64 v1)).bind fun x2 =>
    if x2 = 0 then
      (f_X12_keeps n z h1 v0).bind fun h4 =>
      (f_X12_drawsIt n z h4 v0 v1).bind fun h5 =>
      (f_X12_notes n z h5 v0).bind fun h6 =>
      (gR z h6 12 v0 1).bind fun a7 =>
      (ldI z h6 a7 (18 + v1)).bind fun x8 =>
      some (x8, h6)
    else
      some (((-99000010) - x2), h1)
  else none
theorem k_X12_draw {n : Nat} {z : Sh} {h : Hp} {v0 : Nat} {v1 : Int32} {w : Int32 × Hp} (hf : f_X12_draw n z h v0 v1 = some w) : z.K v0 = 12 := by
  unfold f_X12_draw at hf
  exact (if_some hf).1
set_option maxHeartbeats 4000000 in
theorem c_X12_draw {l : Launch} {s0 : State} {E : Ev} (G : Gl s0 E) {n : Nat} {z : Sh} {h : Hp} {v0 : Nat} {v1 : Int32} {r : Int32} {h' : Hp} (hf : f_X12_draw n z h v0 v1 = some (r, h')) : Ct l s0 E yX12_draw cX12_draw 3 (some .int) 5 114 [.ref v0, .int v1] z h h' (some (.int r)) := by
  refine Ct.of G (by decide) (Nat.le_of_ble_eq_true rfl) ?_
  intro p e s m below meth c ls B hw hz hc0 hr hlk hl
  have B : Bd p s0 s E m c cX12_draw 3 RX12 := B
  have hx := B.1
  have hb := B.2.1
  have hl : lv_has ls 3 [(0, .ref v0), (1, .int v1)] := hl
  unfold f_X12_draw at hf
  obtain ⟨_, hf⟩ := if_some hf
  refine lv_aload_n hx hb dX12_draw_0 rfl (lv_at hl 0 rfl) ?_
  refine lv_iconst (v := 0) hx hb dX12_draw_1 (by decide) ?_
  obtain ⟨h1, e, hf⟩ := ob hf
  refine q_putI e B hw fd_12_0.1 fd_12_0.2.1 fd_12_0.2.2.1 fd_12_0.2.2.2.1 fd_12_0.2.2.2.2 rfl rfl (tyX12_ok 0 (by decide)) tyX12 tyX12_ok nmX12 tw_6_43 dX12_draw_2 (fun H locs hw => ?_)
  refine lv_aload_n hx hb dX12_draw_5 rfl (lv_at hl 0 rfl) ?_
  refine lv_iload_n hx hb dX12_draw_6 rfl (lv_at hl 1 rfl) ?_
  refine lv_i2l (v := (Int32.toInt64 v1)) hx hb dX12_draw_7 rfl ?_
  obtain ⟨x2, e, hf⟩ := ob hf
  refine q_callV (As := [.long (Int32.toInt64 v1)]) (rest := []) (st1 := [.int x2]) (c_X12_whyDraw G e) B hw hz hc0 (k_X12_whyDraw e) (by decide) (ci := 12) rfl rfl my_X12_whyDraw mv_X12_whyDraw tw_7_127 ⟨Nat.le_of_ble_eq_true rfl, Nat.le_of_ble_eq_true rfl⟩ ⟨Nat.zero_le _, Nat.zero_le _⟩ rfl hl.1 rfl rfl (Nat.le_of_ble_eq_true rfl) dX12_draw_8 (fun H locs hw => ?_)
  refine lv_istore_n (lv' := [(2, .int x2), (0, .ref v0), (1, .int v1)]) hx hb dX12_draw_11 rfl hl (by decide) rfl (fun ls hl => ?_)
  refine lv_iload_n hx hb dX12_draw_12 rfl (lv_at hl 0 rfl) ?_
  refine lv_if_eq (tgt := 22) hx hb dX12_draw_13 (by decide) (fun c3 => ?_) (fun c3 => ?_)
  · have hf := (if_pos c3).symm.trans hf
    refine lv_aload_n hx hb dX12_draw_22 rfl (lv_at hl 1 rfl) ?_
    obtain ⟨h4, e, hf⟩ := ob hf
    refine q_callV (As := []) (rest := []) (st1 := []) (c_X12_keeps G e) B hw hz hc0 (k_X12_keeps e) (by decide) (ci := 12) rfl rfl my_X12_keeps mv_X12_keeps tw_7_104 ⟨Nat.le_of_ble_eq_true rfl, Nat.le_of_ble_eq_true rfl⟩ ⟨Nat.zero_le _, Nat.zero_le _⟩ rfl hl.1 rfl rfl (Nat.le_of_ble_eq_true rfl) dX12_draw_23 (fun H locs hw => ?_)
    refine lv_aload_n hx hb dX12_draw_26 rfl (lv_at hl 1 rfl) ?_
    refine lv_iload_n hx hb dX12_draw_27 rfl (lv_at hl 2 rfl) ?_
    obtain ⟨h5, e, hf⟩ := ob hf
    refine q_callV (As := [.int v1]) (rest := []) (st1 := []) (c_X12_drawsIt G e) B hw hz hc0 (k_X12_drawsIt e) (by decide) (ci := 12) rfl rfl my_X12_drawsIt mv_X12_drawsIt tw_7_131 ⟨Nat.le_of_ble_eq_true rfl, Nat.le_of_ble_eq_true rfl⟩ ⟨Nat.zero_le _, Nat.zero_le _⟩ rfl hl.1 rfl rfl (Nat.le_of_ble_eq_true rfl) dX12_draw_28 (fun H locs hw => ?_)
    refine lv_aload_n hx hb dX12_draw_31 rfl (lv_at hl 1 rfl) ?_
    obtain ⟨h6, e, hf⟩ := ob hf
    refine q_callV (As := []) (rest := []) (st1 := []) (c_X12_notes G e) B hw hz hc0 (k_X12_notes e) (by decide) (ci := 12) rfl rfl my_X12_notes mv_X12_notes tw_7_119 ⟨Nat.le_of_ble_eq_true rfl, Nat.le_of_ble_eq_true rfl⟩ ⟨Nat.zero_le _, Nat.zero_le _⟩ rfl hl.1 rfl rfl (Nat.le_of_ble_eq_true rfl) dX12_draw_32 (fun H locs hw => ?_)
    refine lv_aload_n hx hb dX12_draw_35 rfl (lv_at hl 1 rfl) ?_
    obtain ⟨a7, e, hf⟩ := ob hf
    refine q_getR e B hw fd_12_1.1 fd_12_1.2.1 fd_12_1.2.2.1 fd_12_1.2.2.2.1 fd_12_1.2.2.2.2 rfl tw_6_44 dX12_draw_36 ?_
    refine lv_bipush (v := 18) hx hb dX12_draw_39 (by decide) ?_
    refine lv_iload_n hx hb dX12_draw_41 rfl (lv_at hl 2 rfl) ?_
    refine lv_iadd hx hb dX12_draw_42 ?_
    obtain ⟨x8, e, hf⟩ := ob hf
    refine q_ldI e B hw dX12_draw_43 ?_
    obtain ⟨rfl, rfl⟩ := so2 hf
    exact q_iret B hw hz hc0 hr hlk dX12_draw_44
  · have hf := (if_neg c3).symm.trans hf
    refine lv_ldcw hx hb B.2.2.2.1 (B.w tw_7_103 rfl) dX12_draw_16 ?_
    refine lv_iload_n hx hb dX12_draw_19 rfl (lv_at hl 0 rfl) ?_
    refine lv_isub hx hb dX12_draw_20 ?_
    obtain ⟨rfl, rfl⟩ := so2 hf
    exact q_iret B hw hz hc0 hr hlk dX12_draw_21
/-! SecondLifeModel.pledge(II)I -/
def f_X12_pledge (n : Nat) (z : Sh) (h : Hp) (v0 : Nat) (v1 : Int32) (v2 : Int32) : Option (Int32 × Hp) :=
  if z.K v0 = 12 then
    (pI z h 12 v0 0 0).bind fun h1 =>
    (f_X12_whyPledge z h1 v0 (Int32.toInt64 v1) (Int32.toInt64 v2)).bind fun x2 =>
    if x2 = 0 then
      (f_X12_keeps n z h1 v0).bind fun h4 =>
      (f_X12_goes z h4 v0 v1 v2).bind fun h5 =>
      (f_X12_notes n z h5 v0).bind fun h6 =>
      (gR z h6 12 v0 1).bind fun a7 =>
      (ldI z h6 a7 17).bind fun x8 =>
      some (x8, h6)
    else
      some (((-99000010) - x2), h1)
  else none
theorem k_X12_pledge {n : Nat} {z : Sh} {h : Hp} {v0 : Nat} {v1 : Int32} {v2 : Int32} {w : Int32 × Hp} (hf : f_X12_pledge n z h v0 v1 v2 = some w) : z.K v0 = 12 := by
  unfold f_X12_pledge at hf
  exact (if_some hf).1
set_option maxHeartbeats 4000000 in
theorem c_X12_pledge {l : Launch} {s0 : State} {E : Ev} (G : Gl s0 E) {n : Nat} {z : Sh} {h : Hp} {v0 : Nat} {v1 : Int32} {v2 : Int32} {r : Int32} {h' : Hp} (hf : f_X12_pledge n z h v0 v1 v2 = some (r, h')) : Ct l s0 E yX12_pledge cX12_pledge 4 (some .int) 4 94 [.ref v0, .int v1, .int v2] z h h' (some (.int r)) := by
  refine Ct.of G (by decide) (Nat.le_of_ble_eq_true rfl) ?_
  intro p e s m below meth c ls B hw hz hc0 hr hlk hl
  have B : Bd p s0 s E m c cX12_pledge 4 RX12 := B
  have hx := B.1
  have hb := B.2.1
  have hl : lv_has ls 4 [(0, .ref v0), (1, .int v1), (2, .int v2)] := hl
  unfold f_X12_pledge at hf
  obtain ⟨_, hf⟩ := if_some hf
  refine lv_aload_n hx hb dX12_pledge_0 rfl (lv_at hl 0 rfl) ?_
  refine lv_iconst (v := 0) hx hb dX12_pledge_1 (by decide) ?_
  obtain ⟨h1, e, hf⟩ := ob hf
  refine q_putI e B hw fd_12_0.1 fd_12_0.2.1 fd_12_0.2.2.1 fd_12_0.2.2.2.1 fd_12_0.2.2.2.2 rfl rfl (tyX12_ok 0 (by decide)) tyX12 tyX12_ok nmX12 tw_6_43 dX12_pledge_2 (fun H locs hw => ?_)
  refine lv_aload_n hx hb dX12_pledge_5 rfl (lv_at hl 0 rfl) ?_
  refine lv_iload_n hx hb dX12_pledge_6 rfl (lv_at hl 1 rfl) ?_
  refine lv_i2l (v := (Int32.toInt64 v1)) hx hb dX12_pledge_7 rfl ?_
  refine lv_iload_n hx hb dX12_pledge_8 rfl (lv_at hl 2 rfl) ?_
  refine lv_i2l (v := (Int32.toInt64 v2)) hx hb dX12_pledge_9 rfl ?_
  obtain ⟨x2, e, hf⟩ := ob hf
  refine q_callV (As := [.long (Int32.toInt64 v1), .long (Int32.toInt64 v2)]) (rest := []) (st1 := [.int x2]) (c_X12_whyPledge G e) B hw hz hc0 (k_X12_whyPledge e) (by decide) (ci := 12) rfl rfl my_X12_whyPledge mv_X12_whyPledge tw_7_143 ⟨Nat.le_of_ble_eq_true rfl, Nat.le_of_ble_eq_true rfl⟩ ⟨Nat.zero_le _, Nat.zero_le _⟩ rfl hl.1 rfl rfl (Nat.le_of_ble_eq_true rfl) dX12_pledge_10 (fun H locs hw => ?_)
  refine lv_istore_n (lv' := [(3, .int x2), (0, .ref v0), (1, .int v1), (2, .int v2)]) hx hb dX12_pledge_13 rfl hl (by decide) rfl (fun ls hl => ?_)
  refine lv_iload_n hx hb dX12_pledge_14 rfl (lv_at hl 0 rfl) ?_
  refine lv_if_eq (tgt := 24) hx hb dX12_pledge_15 (by decide) (fun c3 => ?_) (fun c3 => ?_)
  · have hf := (if_pos c3).symm.trans hf
    refine lv_aload_n hx hb dX12_pledge_24 rfl (lv_at hl 1 rfl) ?_
    obtain ⟨h4, e, hf⟩ := ob hf
    refine q_callV (As := []) (rest := []) (st1 := []) (c_X12_keeps G e) B hw hz hc0 (k_X12_keeps e) (by decide) (ci := 12) rfl rfl my_X12_keeps mv_X12_keeps tw_7_104 ⟨Nat.le_of_ble_eq_true rfl, Nat.le_of_ble_eq_true rfl⟩ ⟨Nat.zero_le _, Nat.zero_le _⟩ rfl hl.1 rfl rfl (Nat.le_of_ble_eq_true rfl) dX12_pledge_25 (fun H locs hw => ?_)
    refine lv_aload_n hx hb dX12_pledge_28 rfl (lv_at hl 1 rfl) ?_
    refine lv_iload_n hx hb dX12_pledge_29 rfl (lv_at hl 2 rfl) ?_
    refine lv_iload_n hx hb dX12_pledge_30 rfl (lv_at hl 3 rfl) ?_
    obtain ⟨h5, e, hf⟩ := ob hf
    refine q_callV (As := [.int v1, .int v2]) (rest := []) (st1 := []) (c_X12_goes G e) B hw hz hc0 (k_X12_goes e) (by decide) (ci := 12) rfl rfl my_X12_goes mv_X12_goes tw_7_148 ⟨Nat.le_of_ble_eq_true rfl, Nat.le_of_ble_eq_true rfl⟩ ⟨Nat.zero_le _, Nat.zero_le _⟩ rfl hl.1 rfl rfl (Nat.le_of_ble_eq_true rfl) dX12_pledge_31 (fun H locs hw => ?_)
    refine lv_aload_n hx hb dX12_pledge_34 rfl (lv_at hl 1 rfl) ?_
    obtain ⟨h6, e, hf⟩ := ob hf
    refine q_callV (As := []) (rest := []) (st1 := []) (c_X12_notes G e) B hw hz hc0 (k_X12_notes e) (by decide) (ci := 12) rfl rfl my_X12_notes mv_X12_notes tw_7_119 ⟨Nat.le_of_ble_eq_true rfl, Nat.le_of_ble_eq_true rfl⟩ ⟨Nat.zero_le _, Nat.zero_le _⟩ rfl hl.1 rfl rfl (Nat.le_of_ble_eq_true rfl) dX12_pledge_35 (fun H locs hw => ?_)
    refine lv_aload_n hx hb dX12_pledge_38 rfl (lv_at hl 1 rfl) ?_
    obtain ⟨a7, e, hf⟩ := ob hf
    refine q_getR e B hw fd_12_1.1 fd_12_1.2.1 fd_12_1.2.2.1 fd_12_1.2.2.2.1 fd_12_1.2.2.2.2 rfl tw_6_44 dX12_pledge_39 ?_
    refine lv_bipush (v := 17) hx hb dX12_pledge_42 (by decide) ?_
    obtain ⟨x8, e, hf⟩ := ob hf
    refine q_ldI e B hw dX12_pledge_44 ?_
    obtain ⟨rfl, rfl⟩ := so2 hf
    exact q_iret B hw hz hc0 hr hlk dX12_pledge_45
  · have hf := (if_neg c3).symm.trans hf
    refine lv_ldcw hx hb B.2.2.2.1 (B.w tw_7_103 rfl) dX12_pledge_18 ?_
    refine lv_iload_n hx hb dX12_pledge_21 rfl (lv_at hl 0 rfl) ?_
    refine lv_isub hx hb dX12_pledge_22 ?_
    obtain ⟨rfl, rfl⟩ := so2 hf
    exact q_iret B hw hz hc0 hr hlk dX12_pledge_23
/-! SecondLifeModel.redeem(I)I -/
def f_X12_redeem (n : Nat) (z : Sh) (h : Hp) (v0 : Nat) (v1 : Int32) : Option (Int32 × Hp) :=
  if z.K v0 = 12 then
    (pI z h 12 v0 0 0).bind fun h1 =>
    (f_X12_whyRedeem z h1 v0 (Int32.toInt64 v1)).bind fun x2 =>
    if x2 = 0 then
      (f_X12_keeps n z h1 v0).bind fun h4 =>
      (gR z h4 12 v0 1).bind fun a5 =>
      (ldI z h4 a5 (60 + v1)).bind fun x6 =>
      (f_X12_goes z h4 v0 v1 (-x6)).bind fun h7 =>
      (f_X12_notes n z h7 v0).bind fun h8 =>
      (gR z h8 12 v0 1).bind fun a9 =>
      (ldI z h8 a9 17).bind fun x10 =>
      some (x10, h8)
    else
      some (((-99000010) - x2), h1)
  else none
theorem k_X12_redeem {n : Nat} {z : Sh} {h : Hp} {v0 : Nat} {v1 : Int32} {w : Int32 × Hp} (hf : f_X12_redeem n z h v0 v1 = some w) : z.K v0 = 12 := by
  unfold f_X12_redeem at hf
  exact (if_some hf).1
set_option maxHeartbeats 4000000 in
theorem c_X12_redeem {l : Launch} {s0 : State} {E : Ev} (G : Gl s0 E) {n : Nat} {z : Sh} {h : Hp} {v0 : Nat} {v1 : Int32} {r : Int32} {h' : Hp} (hf : f_X12_redeem n z h v0 v1 = some (r, h')) : Ct l s0 E yX12_redeem cX12_redeem 3 (some .int) 3 69 [.ref v0, .int v1] z h h' (some (.int r)) := by
  refine Ct.of G (by decide) (Nat.le_of_ble_eq_true rfl) ?_
  intro p e s m below meth c ls B hw hz hc0 hr hlk hl
  have B : Bd p s0 s E m c cX12_redeem 3 RX12 := B
  have hx := B.1
  have hb := B.2.1
  have hl : lv_has ls 3 [(0, .ref v0), (1, .int v1)] := hl
  unfold f_X12_redeem at hf
  obtain ⟨_, hf⟩ := if_some hf
  refine lv_aload_n hx hb dX12_redeem_0 rfl (lv_at hl 0 rfl) ?_
  refine lv_iconst (v := 0) hx hb dX12_redeem_1 (by decide) ?_
  obtain ⟨h1, e, hf⟩ := ob hf
  refine q_putI e B hw fd_12_0.1 fd_12_0.2.1 fd_12_0.2.2.1 fd_12_0.2.2.2.1 fd_12_0.2.2.2.2 rfl rfl (tyX12_ok 0 (by decide)) tyX12 tyX12_ok nmX12 tw_6_43 dX12_redeem_2 (fun H locs hw => ?_)
  refine lv_aload_n hx hb dX12_redeem_5 rfl (lv_at hl 0 rfl) ?_
  refine lv_iload_n hx hb dX12_redeem_6 rfl (lv_at hl 1 rfl) ?_
  refine lv_i2l (v := (Int32.toInt64 v1)) hx hb dX12_redeem_7 rfl ?_
  obtain ⟨x2, e, hf⟩ := ob hf
  refine q_callV (As := [.long (Int32.toInt64 v1)]) (rest := []) (st1 := [.int x2]) (c_X12_whyRedeem G e) B hw hz hc0 (k_X12_whyRedeem e) (by decide) (ci := 12) rfl rfl my_X12_whyRedeem mv_X12_whyRedeem tw_7_156 ⟨Nat.le_of_ble_eq_true rfl, Nat.le_of_ble_eq_true rfl⟩ ⟨Nat.zero_le _, Nat.zero_le _⟩ rfl hl.1 rfl rfl (Nat.le_of_ble_eq_true rfl) dX12_redeem_8 (fun H locs hw => ?_)
  refine lv_istore_n (lv' := [(2, .int x2), (0, .ref v0), (1, .int v1)]) hx hb dX12_redeem_11 rfl hl (by decide) rfl (fun ls hl => ?_)
  refine lv_iload_n hx hb dX12_redeem_12 rfl (lv_at hl 0 rfl) ?_
  refine lv_if_eq (tgt := 22) hx hb dX12_redeem_13 (by decide) (fun c3 => ?_) (fun c3 => ?_)
  · have hf := (if_pos c3).symm.trans hf
    refine lv_aload_n hx hb dX12_redeem_22 rfl (lv_at hl 1 rfl) ?_
    obtain ⟨h4, e, hf⟩ := ob hf
    refine q_callV (As := []) (rest := []) (st1 := []) (c_X12_keeps G e) B hw hz hc0 (k_X12_keeps e) (by decide) (ci := 12) rfl rfl my_X12_keeps mv_X12_keeps tw_7_104 ⟨Nat.le_of_ble_eq_true rfl, Nat.le_of_ble_eq_true rfl⟩ ⟨Nat.zero_le _, Nat.zero_le _⟩ rfl hl.1 rfl rfl (Nat.le_of_ble_eq_true rfl) dX12_redeem_23 (fun H locs hw => ?_)
    refine lv_aload_n hx hb dX12_redeem_26 rfl (lv_at hl 1 rfl) ?_
    refine lv_iload_n hx hb dX12_redeem_27 rfl (lv_at hl 2 rfl) ?_
    refine lv_aload_n hx hb dX12_redeem_28 rfl (lv_at hl 1 rfl) ?_
    obtain ⟨a5, e, hf⟩ := ob hf
    refine q_getR e B hw fd_12_1.1 fd_12_1.2.1 fd_12_1.2.2.1 fd_12_1.2.2.2.1 fd_12_1.2.2.2.2 rfl tw_6_44 dX12_redeem_29 ?_
    refine lv_bipush (v := 60) hx hb dX12_redeem_32 (by decide) ?_
    refine lv_iload_n hx hb dX12_redeem_34 rfl (lv_at hl 2 rfl) ?_
    refine lv_iadd hx hb dX12_redeem_35 ?_
    obtain ⟨x6, e, hf⟩ := ob hf
    refine q_ldI e B hw dX12_redeem_36 ?_
    refine lv_ineg hx hb dX12_redeem_37 ?_
    obtain ⟨h7, e, hf⟩ := ob hf
    refine q_callV (As := [.int v1, .int (-x6)]) (rest := []) (st1 := []) (c_X12_goes G e) B hw hz hc0 (k_X12_goes e) (by decide) (ci := 12) rfl rfl my_X12_goes mv_X12_goes tw_7_148 ⟨Nat.le_of_ble_eq_true rfl, Nat.le_of_ble_eq_true rfl⟩ ⟨Nat.zero_le _, Nat.zero_le _⟩ rfl hl.1 rfl rfl (Nat.le_of_ble_eq_true rfl) dX12_redeem_38 (fun H locs hw => ?_)
    refine lv_aload_n hx hb dX12_redeem_41 rfl (lv_at hl 1 rfl) ?_
    obtain ⟨h8, e, hf⟩ := ob hf
    refine q_callV (As := []) (rest := []) (st1 := []) (c_X12_notes G e) B hw hz hc0 (k_X12_notes e) (by decide) (ci := 12) rfl rfl my_X12_notes mv_X12_notes tw_7_119 ⟨Nat.le_of_ble_eq_true rfl, Nat.le_of_ble_eq_true rfl⟩ ⟨Nat.zero_le _, Nat.zero_le _⟩ rfl hl.1 rfl rfl (Nat.le_of_ble_eq_true rfl) dX12_redeem_42 (fun H locs hw => ?_)
    refine lv_aload_n hx hb dX12_redeem_45 rfl (lv_at hl 1 rfl) ?_
    obtain ⟨a9, e, hf⟩ := ob hf
    refine q_getR e B hw fd_12_1.1 fd_12_1.2.1 fd_12_1.2.2.1 fd_12_1.2.2.2.1 fd_12_1.2.2.2.2 rfl tw_6_44 dX12_redeem_46 ?_
    refine lv_bipush (v := 17) hx hb dX12_redeem_49 (by decide) ?_
    obtain ⟨x10, e, hf⟩ := ob hf
    refine q_ldI e B hw dX12_redeem_51 ?_
    obtain ⟨rfl, rfl⟩ := so2 hf
    exact q_iret B hw hz hc0 hr hlk dX12_redeem_52
  · have hf := (if_neg c3).symm.trans hf
    refine lv_ldcw hx hb B.2.2.2.1 (B.w tw_7_103 rfl) dX12_redeem_16 ?_
    refine lv_iload_n hx hb dX12_redeem_19 rfl (lv_at hl 0 rfl) ?_
    refine lv_isub hx hb dX12_redeem_20 ?_
    obtain ⟨rfl, rfl⟩ := so2 hf
    exact q_iret B hw hz hc0 hr hlk dX12_redeem_21
/-! SecondLifeModel.talent(II)I -/
def f_X12_talent (n : Nat) (z : Sh) (h : Hp) (v0 : Nat) (v1 : Int32) (v2 : Int32) : Option (Int32 × Hp) :=
  if z.K v0 = 12 then
    (pI z h 12 v0 0 0).bind fun h1 =>
    (f_X12_isPerson z h1 v0 (Int32.toInt64 v1)).bind fun x2 =>
    if x2 = 0 then
      some (((-99000011) : Int32), h1)
    else
      (f_X12_within z h1 (Int32.toInt64 v2) 0 9).bind fun x4 =>
      if x4 = 0 then
        some (((-99000011) : Int32), h1)
      else
        (f_X12_keeps n z h1 v0).bind fun h6 =>
        (gR z h6 12 v0 1).bind fun a7 =>
        (stI z h6 a7 (54 + v1) v2).bind fun h8 =>
        (f_X12_notes n z h8 v0).bind fun h9 =>
        (gR z h9 12 v0 18).bind fun a10 =>
        (ldI z h9 a10 (37 + v1)).bind fun x11 =>
        some (x11, h9)
  else none
theorem k_X12_talent {n : Nat} {z : Sh} {h : Hp} {v0 : Nat} {v1 : Int32} {v2 : Int32} {w : Int32 × Hp} (hf : f_X12_talent n z h v0 v1 v2 = some w) : z.K v0 = 12 := by
  unfold f_X12_talent at hf
  exact (if_some hf).1
set_option maxHeartbeats 4000000 in
theorem c_X12_talent {l : Launch} {s0 : State} {E : Ev} (G : Gl s0 E) {n : Nat} {z : Sh} {h : Hp} {v0 : Nat} {v1 : Int32} {v2 : Int32} {r : Int32} {h' : Hp} (hf : f_X12_talent n z h v0 v1 v2 = some (r, h')) : Ct l s0 E yX12_talent cX12_talent 3 (some .int) 2 47 [.ref v0, .int v1, .int v2] z h h' (some (.int r)) := by
  refine Ct.of G (by decide) (Nat.le_of_ble_eq_true rfl) ?_
  intro p e s m below meth c ls B hw hz hc0 hr hlk hl
  have B : Bd p s0 s E m c cX12_talent 3 RX12 := B
  have hx := B.1
  have hb := B.2.1
  have hl : lv_has ls 3 [(0, .ref v0), (1, .int v1), (2, .int v2)] := hl
  unfold f_X12_talent at hf
  obtain ⟨_, hf⟩ := if_some hf
  refine lv_aload_n hx hb dX12_talent_0 rfl (lv_at hl 0 rfl) ?_
  refine lv_iconst (v := 0) hx hb dX12_talent_1 (by decide) ?_
  obtain ⟨h1, e, hf⟩ := ob hf
  refine q_putI e B hw fd_12_0.1 fd_12_0.2.1 fd_12_0.2.2.1 fd_12_0.2.2.2.1 fd_12_0.2.2.2.2 rfl rfl (tyX12_ok 0 (by decide)) tyX12 tyX12_ok nmX12 tw_6_43 dX12_talent_2 (fun H locs hw => ?_)
  refine lv_aload_n hx hb dX12_talent_5 rfl (lv_at hl 0 rfl) ?_
  refine lv_iload_n hx hb dX12_talent_6 rfl (lv_at hl 1 rfl) ?_
  refine lv_i2l (v := (Int32.toInt64 v1)) hx hb dX12_talent_7 rfl ?_
  obtain ⟨x2, e, hf⟩ := ob hf
  refine q_callV (As := [.long (Int32.toInt64 v1)]) (rest := []) (st1 := [.int x2]) (c_X12_isPerson G e) B hw hz hc0 (k_X12_isPerson e) (by decide) (ci := 12) rfl rfl my_X12_isPerson mv_X12_isPerson tw_7_35 ⟨Nat.le_of_ble_eq_true rfl, Nat.le_of_ble_eq_true rfl⟩ ⟨Nat.zero_le _, Nat.zero_le _⟩ rfl hl.1 rfl rfl (Nat.le_of_ble_eq_true rfl) dX12_talent_8 (fun H locs hw => ?_)
  refine lv_if_eq (tgt := 26) hx hb dX12_talent_11 (by decide) (fun c3 => ?_) (fun c3 => ?_)
  · have hf := (if_pos c3).symm.trans hf
    refine lv_ldcw hx hb B.2.2.2.1 (B.w tw_7_165 rfl) dX12_talent_26 ?_
    obtain ⟨rfl, rfl⟩ := so2 hf
    exact q_iret B hw hz hc0 hr hlk dX12_talent_29
  · have hf := (if_neg c3).symm.trans hf
    refine lv_iload_n hx hb dX12_talent_14 rfl (lv_at hl 2 rfl) ?_
    refine lv_i2l (v := (Int32.toInt64 v2)) hx hb dX12_talent_15 rfl ?_
    refine lv_lconst (v := 0) hx hb dX12_talent_16 (by decide) ?_
    refine lv_ldc2 hx hb B.2.2.2.1 (B.w tw_7_164 rfl) dX12_talent_17 ?_
    obtain ⟨x4, e, hf⟩ := ob hf
    refine q_callS (As := [.long (Int32.toInt64 v2), .long 0, .long 9]) (rest := []) (st1 := [.int x4]) (c_X12_within G e) B hw hz hc0 my_X12_within mv_X12_within tw_6_162 ⟨Nat.le_of_ble_eq_true rfl, Nat.le_of_ble_eq_true rfl⟩ ⟨Nat.zero_le _, Nat.zero_le _⟩ rfl hl.1 rfl rfl (Nat.le_of_ble_eq_true rfl) dX12_talent_20 (fun H locs hw => ?_)
    refine lv_if_ne (tgt := 30) hx hb dX12_talent_23 (by decide) (fun c5 => ?_) (fun c5 => ?_)
    · have hf := (if_neg c5).symm.trans hf
      refine lv_aload_n hx hb dX12_talent_30 rfl (lv_at hl 0 rfl) ?_
      obtain ⟨h6, e, hf⟩ := ob hf
      refine q_callV (As := []) (rest := []) (st1 := []) (c_X12_keeps G e) B hw hz hc0 (k_X12_keeps e) (by decide) (ci := 12) rfl rfl my_X12_keeps mv_X12_keeps tw_7_104 ⟨Nat.le_of_ble_eq_true rfl, Nat.le_of_ble_eq_true rfl⟩ ⟨Nat.zero_le _, Nat.zero_le _⟩ rfl hl.1 rfl rfl (Nat.le_of_ble_eq_true rfl) dX12_talent_31 (fun H locs hw => ?_)
      refine lv_aload_n hx hb dX12_talent_34 rfl (lv_at hl 0 rfl) ?_
      obtain ⟨a7, e, hf⟩ := ob hf
      refine q_getR e B hw fd_12_1.1 fd_12_1.2.1 fd_12_1.2.2.1 fd_12_1.2.2.2.1 fd_12_1.2.2.2.2 rfl tw_6_44 dX12_talent_35 ?_
      refine lv_bipush (v := 54) hx hb dX12_talent_38 (by decide) ?_
      refine lv_iload_n hx hb dX12_talent_40 rfl (lv_at hl 1 rfl) ?_
      refine lv_iadd hx hb dX12_talent_41 ?_
      refine lv_iload_n hx hb dX12_talent_42 rfl (lv_at hl 2 rfl) ?_
      obtain ⟨h8, e, hf⟩ := ob hf
      refine q_stI e B hw dX12_talent_43 (fun H locs hw => ?_)
      refine lv_aload_n hx hb dX12_talent_44 rfl (lv_at hl 0 rfl) ?_
      obtain ⟨h9, e, hf⟩ := ob hf
      refine q_callV (As := []) (rest := []) (st1 := []) (c_X12_notes G e) B hw hz hc0 (k_X12_notes e) (by decide) (ci := 12) rfl rfl my_X12_notes mv_X12_notes tw_7_119 ⟨Nat.le_of_ble_eq_true rfl, Nat.le_of_ble_eq_true rfl⟩ ⟨Nat.zero_le _, Nat.zero_le _⟩ rfl hl.1 rfl rfl (Nat.le_of_ble_eq_true rfl) dX12_talent_45 (fun H locs hw => ?_)
      refine lv_aload_n hx hb dX12_talent_48 rfl (lv_at hl 0 rfl) ?_
      obtain ⟨a10, e, hf⟩ := ob hf
      refine q_getR e B hw fd_12_18.1 fd_12_18.2.1 fd_12_18.2.2.1 fd_12_18.2.2.2.1 fd_12_18.2.2.2.2 rfl tw_6_61 dX12_talent_49 ?_
      refine lv_bipush (v := 37) hx hb dX12_talent_52 (by decide) ?_
      refine lv_iload_n hx hb dX12_talent_54 rfl (lv_at hl 1 rfl) ?_
      refine lv_iadd hx hb dX12_talent_55 ?_
      obtain ⟨x11, e, hf⟩ := ob hf
      refine q_ldI e B hw dX12_talent_56 ?_
      obtain ⟨rfl, rfl⟩ := so2 hf
      exact q_iret B hw hz hc0 hr hlk dX12_talent_57
    · have hf := (if_pos c5).symm.trans hf
      refine lv_ldcw hx hb B.2.2.2.1 (B.w tw_7_165 rfl) dX12_talent_26 ?_
      obtain ⟨rfl, rfl⟩ := so2 hf
      exact q_iret B hw hz hc0 hr hlk dX12_talent_29
/-! SecondLifeModel.undo(I)I -/
def f_X12_undo_44 (n : Nat) (z : Sh) : Nat → Hp → Nat → Int32 → Option (Int32 × Hp)
  | 0, _, _, _ => none
  | i + 1, h, v0, v2 =>
    if 49 ≤ v2 then
      (gR z h 12 v0 1).bind fun a2 =>
      (ldI z h a2 66).bind fun x3 =>
      some (x3, h)
    else
      (gR z h 12 v0 1).bind fun a4 =>
      (gR z h 12 v0 1).bind fun a5 =>
      (gR z h 12 v0 1).bind fun a6 =>
      (ldI z h a6 66).bind fun x7 =>
      (ldI z h a5 ((67 + (49 * x7)) + v2)).bind fun x8 =>
      (stI z h a4 (17 + v2) x8).bind fun h9 =>
      (some (v2 + 1)).bind fun x10 =>
      (f_X12_undo_44 n z i) h9 v0 x10
def f_X12_undo (n : Nat) (z : Sh) (h : Hp) (v0 : Nat) (v1 : Int32) : Option (Int32 × Hp) :=
  if z.K v0 = 12 then
    (pI z h 12 v0 0 0).bind fun h1 =>
    (f_X12_within z h1 (Int32.toInt64 v1) 1 10).bind fun x2 =>
    if x2 = 0 then
      some (((-99000003) : Int32), h1)
    else
      (gR z h1 12 v0 1).bind fun a4 =>
      (ldI z h1 a4 66).bind fun x5 =>
      if v1 ≤ x5 then
        (gR z h1 12 v0 1).bind fun a7 =>
        (ldI z h1 a7 66).bind fun x8 =>
        (stI z h1 a7 66 (x8 - v1)).bind fun h9 =>
        f_X12_undo_44 n z n h9 v0 0
      else
        some (((-99000003) : Int32), h1)
  else none
theorem k_X12_undo {n : Nat} {z : Sh} {h : Hp} {v0 : Nat} {v1 : Int32} {w : Int32 × Hp} (hf : f_X12_undo n z h v0 v1 = some w) : z.K v0 = 12 := by
  unfold f_X12_undo at hf
  exact (if_some hf).1
set_option maxHeartbeats 4000000 in
theorem w_X12_undo_44 {p : Program} {l : Launch} {e : Env} {s : State} {m : MethodId} {args : Array Value} {below : List Frame} {meth : Method} {c : Code} {s0 : State} {E : Ev} {z : Sh} {n : Nat} {r : Int32} {h' : Hp} (G : Gl s0 E) (B : Bd p s0 s E m c cX12_undo 3 RX12) (hz : s0.heap.size ≤ z.sz) (hc0 : s.heap.size + 0 = z.sz) (hr : meth.sig.returnType = (some .int)) (hlk : meth.locks = false) : ∀ (i : Nat), ∀ (h : Hp) (v0 : Nat) (v2 : Int32) (H : Heap) (locs : List Loc) (ls : Array Slot), Pw s0 s E z h H locs → lv_has ls 3 [(0, .ref v0), (2, .int v2)] → f_X12_undo_44 n z i h v0 v2 = some (r, h') → W p l e (rmO 1 25) s m args below meth c H locs 0 0 (Zt below s0 E z h' (some (.int r)) args s 0 0) (F0 m 44 ls []) := by
  have hx := B.1
  have hb := B.2.1
  intro i
  induction i with
  | zero =>
    intro h v0 v2 H locs ls hw hl hf
    have hf := (f_X12_undo_44.eq_1 ..).symm.trans hf
    cases hf
  | succ i ih =>
    intro h v0 v2 H locs ls hw hl hf
    have hf := (f_X12_undo_44.eq_2 ..).symm.trans hf
    refine lv_iload_n hx hb dX12_undo_44 rfl (lv_at hl 1 rfl) ?_
    refine lv_bipush (v := 49) hx hb dX12_undo_45 (by decide) ?_
    refine lv_icmp_ge (tgt := 85) hx hb dX12_undo_47 (by decide) (fun c1 => ?_) (fun c1 => ?_)
    · have hf := (if_pos c1).symm.trans hf
      refine lv_aload_n hx hb dX12_undo_85 rfl (lv_at hl 0 rfl) ?_
      obtain ⟨a2, e, hf⟩ := ob hf
      refine q_getR e B hw fd_12_1.1 fd_12_1.2.1 fd_12_1.2.2.1 fd_12_1.2.2.2.1 fd_12_1.2.2.2.2 rfl tw_6_44 dX12_undo_86 ?_
      refine lv_bipush (v := 66) hx hb dX12_undo_89 (by decide) ?_
      obtain ⟨x3, e, hf⟩ := ob hf
      refine q_ldI e B hw dX12_undo_91 ?_
      obtain ⟨rfl, rfl⟩ := so2 hf
      exact q_iret B hw hz hc0 hr hlk dX12_undo_92
    · have hf := (if_neg c1).symm.trans hf
      refine lv_aload_n hx hb dX12_undo_50 rfl (lv_at hl 0 rfl) ?_
      obtain ⟨a4, e, hf⟩ := ob hf
      refine q_getR e B hw fd_12_1.1 fd_12_1.2.1 fd_12_1.2.2.1 fd_12_1.2.2.2.1 fd_12_1.2.2.2.2 rfl tw_6_44 dX12_undo_51 ?_
      refine lv_bipush (v := 17) hx hb dX12_undo_54 (by decide) ?_
      refine lv_iload_n hx hb dX12_undo_56 rfl (lv_at hl 1 rfl) ?_
      refine lv_iadd hx hb dX12_undo_57 ?_
      refine lv_aload_n hx hb dX12_undo_58 rfl (lv_at hl 0 rfl) ?_
      obtain ⟨a5, e, hf⟩ := ob hf
      refine q_getR e B hw fd_12_1.1 fd_12_1.2.1 fd_12_1.2.2.1 fd_12_1.2.2.2.1 fd_12_1.2.2.2.2 rfl tw_6_44 dX12_undo_59 ?_
      refine lv_bipush (v := 67) hx hb dX12_undo_62 (by decide) ?_
      refine lv_bipush (v := 49) hx hb dX12_undo_64 (by decide) ?_
      refine lv_aload_n hx hb dX12_undo_66 rfl (lv_at hl 0 rfl) ?_
      obtain ⟨a6, e, hf⟩ := ob hf
      refine q_getR e B hw fd_12_1.1 fd_12_1.2.1 fd_12_1.2.2.1 fd_12_1.2.2.2.1 fd_12_1.2.2.2.2 rfl tw_6_44 dX12_undo_67 ?_
      refine lv_bipush (v := 66) hx hb dX12_undo_70 (by decide) ?_
      obtain ⟨x7, e, hf⟩ := ob hf
      refine q_ldI e B hw dX12_undo_72 ?_
      refine lv_imul hx hb dX12_undo_73 ?_
      refine lv_iadd hx hb dX12_undo_74 ?_
      refine lv_iload_n hx hb dX12_undo_75 rfl (lv_at hl 1 rfl) ?_
      refine lv_iadd hx hb dX12_undo_76 ?_
      obtain ⟨x8, e, hf⟩ := ob hf
      refine q_ldI e B hw dX12_undo_77 ?_
      obtain ⟨h9, e, hf⟩ := ob hf
      refine q_stI e B hw dX12_undo_78 (fun H locs hw => ?_)
      obtain ⟨x10, e, hf⟩ := ob hf
      refine lv_iinc (v := x10) (lv' := [(2, .int x10), (0, .ref v0)]) hx hb dX12_undo_79 hl (k := 1) rfl (Option.some.inj e) (by decide) rfl (fun ls hl => ?_)
      refine lv_goto (tgt := 44) hx hb dX12_undo_82 (by decide) ?_
      exact ih h9 v0 x10 _ _ _ hw (lv_sub hl [1, 0] rfl) hf
set_option maxHeartbeats 4000000 in
theorem c_X12_undo {l : Launch} {s0 : State} {E : Ev} (G : Gl s0 E) {n : Nat} {z : Sh} {h : Hp} {v0 : Nat} {v1 : Int32} {r : Int32} {h' : Hp} (hf : f_X12_undo n z h v0 v1 = some (r, h')) : Ct l s0 E yX12_undo cX12_undo 3 (some .int) 1 25 [.ref v0, .int v1] z h h' (some (.int r)) := by
  refine Ct.of G (by decide) (Nat.le_of_ble_eq_true rfl) ?_
  intro p e s m below meth c ls B hw hz hc0 hr hlk hl
  have B : Bd p s0 s E m c cX12_undo 3 RX12 := B
  have hx := B.1
  have hb := B.2.1
  have hl : lv_has ls 3 [(0, .ref v0), (1, .int v1)] := hl
  unfold f_X12_undo at hf
  obtain ⟨_, hf⟩ := if_some hf
  refine lv_aload_n hx hb dX12_undo_0 rfl (lv_at hl 0 rfl) ?_
  refine lv_iconst (v := 0) hx hb dX12_undo_1 (by decide) ?_
  obtain ⟨h1, e, hf⟩ := ob hf
  refine q_putI e B hw fd_12_0.1 fd_12_0.2.1 fd_12_0.2.2.1 fd_12_0.2.2.2.1 fd_12_0.2.2.2.2 rfl rfl (tyX12_ok 0 (by decide)) tyX12 tyX12_ok nmX12 tw_6_43 dX12_undo_2 (fun H locs hw => ?_)
  refine lv_iload_n hx hb dX12_undo_5 rfl (lv_at hl 1 rfl) ?_
  refine lv_i2l (v := (Int32.toInt64 v1)) hx hb dX12_undo_6 rfl ?_
  refine lv_lconst (v := 1) hx hb dX12_undo_7 (by decide) ?_
  refine lv_ldc2 hx hb B.2.2.2.1 (B.w tw_7_170 rfl) dX12_undo_8 ?_
  obtain ⟨x2, e, hf⟩ := ob hf
  refine q_callS (As := [.long (Int32.toInt64 v1), .long 1, .long 10]) (rest := []) (st1 := [.int x2]) (c_X12_within G e) B hw hz hc0 my_X12_within mv_X12_within tw_6_162 ⟨Nat.le_of_ble_eq_true rfl, Nat.le_of_ble_eq_true rfl⟩ ⟨Nat.zero_le _, Nat.zero_le _⟩ rfl hl.1 rfl rfl (Nat.le_of_ble_eq_true rfl) dX12_undo_11 (fun H locs hw => ?_)
  refine lv_if_eq (tgt := 28) hx hb dX12_undo_14 (by decide) (fun c3 => ?_) (fun c3 => ?_)
  · have hf := (if_pos c3).symm.trans hf
    refine lv_ldc hx hb B.2.2.2.1 (B.w tw_6_165 rfl) dX12_undo_28 ?_
    obtain ⟨rfl, rfl⟩ := so2 hf
    exact q_iret B hw hz hc0 hr hlk dX12_undo_30
  · have hf := (if_neg c3).symm.trans hf
    refine lv_iload_n hx hb dX12_undo_17 rfl (lv_at hl 1 rfl) ?_
    refine lv_aload_n hx hb dX12_undo_18 rfl (lv_at hl 0 rfl) ?_
    obtain ⟨a4, e, hf⟩ := ob hf
    refine q_getR e B hw fd_12_1.1 fd_12_1.2.1 fd_12_1.2.2.1 fd_12_1.2.2.2.1 fd_12_1.2.2.2.2 rfl tw_6_44 dX12_undo_19 ?_
    refine lv_bipush (v := 66) hx hb dX12_undo_22 (by decide) ?_
    obtain ⟨x5, e, hf⟩ := ob hf
    refine q_ldI e B hw dX12_undo_24 ?_
    refine lv_icmp_le (tgt := 31) hx hb dX12_undo_25 (by decide) (fun c6 => ?_) (fun c6 => ?_)
    · have hf := (if_pos c6).symm.trans hf
      refine lv_aload_n hx hb dX12_undo_31 rfl (lv_at hl 0 rfl) ?_
      obtain ⟨a7, e, hf⟩ := ob hf
      refine q_getR e B hw fd_12_1.1 fd_12_1.2.1 fd_12_1.2.2.1 fd_12_1.2.2.2.1 fd_12_1.2.2.2.2 rfl tw_6_44 dX12_undo_32 ?_
      refine lv_bipush (v := 66) hx hb dX12_undo_35 (by decide) ?_
      refine lv_dup2_11 hx hb dX12_undo_37 rfl rfl ?_
      obtain ⟨x8, e, hf⟩ := ob hf
      refine q_ldI e B hw dX12_undo_38 ?_
      refine lv_iload_n hx hb dX12_undo_39 rfl (lv_at hl 1 rfl) ?_
      refine lv_isub hx hb dX12_undo_40 ?_
      obtain ⟨h9, e, hf⟩ := ob hf
      refine q_stI e B hw dX12_undo_41 (fun H locs hw => ?_)
      refine lv_iconst (v := 0) hx hb dX12_undo_42 (by decide) ?_
      refine lv_istore_n (lv' := [(2, .int 0), (0, .ref v0), (1, .int v1)]) hx hb dX12_undo_43 rfl hl (by decide) rfl (fun ls hl => ?_)
      exact w_X12_undo_44 G B hz hc0 hr hlk  n h9 v0 0 _ _ _ hw (lv_sub hl [1, 0] rfl) hf
    · have hf := (if_neg c6).symm.trans hf
      refine lv_ldc hx hb B.2.2.2.1 (B.w tw_6_165 rfl) dX12_undo_28 ?_
      obtain ⟨rfl, rfl⟩ := so2 hf
      exact q_iret B hw hz hc0 hr hlk dX12_undo_30
/-! SecondLifeModel.whyNot(J)I -/
def f_X12_whyNot (z : Sh) (h : Hp) (v0 : Nat) (v1 : Int64) : Option (Int32) :=
  if z.K v0 = 12 then
    (f_X12_within z h v1 0 99).bind fun x1 =>
    if x1 = 0 then
      (f_X12_within z h v1 100 109).bind fun x3 =>
      if x3 = 0 then
        (f_X12_within z h v1 110 119).bind fun x5 =>
        if x5 = 0 then
          (f_X12_within z h v1 1000 1999).bind fun x7 =>
          if x7 = 0 then
            some (1 : Int32)
          else
            (dvJ (v1 - 1000) 100).bind fun x9 =>
            (rmJ v1 100).bind fun x10 =>
            (f_X12_whyPledge z h v0 x9 x10).bind fun x11 =>
            some x11
        else
          (f_X12_whyRedeem z h v0 (v1 - 110)).bind fun x12 =>
          some x12
      else
        (f_X12_whyDraw z h v0 (v1 - 100)).bind fun x13 =>
        some x13
    else
      (dvJ v1 10).bind fun x14 =>
      (rmJ v1 10).bind fun x15 =>
      (f_X12_whyLive z h v0 x14 x15).bind fun x16 =>
      some x16
  else none
theorem k_X12_whyNot {z : Sh} {h : Hp} {v0 : Nat} {v1 : Int64} {w : Int32} (hf : f_X12_whyNot z h v0 v1 = some w) : z.K v0 = 12 := by
  unfold f_X12_whyNot at hf
  exact (if_some hf).1
set_option maxHeartbeats 4000000 in
theorem c_X12_whyNot {l : Launch} {s0 : State} {E : Ev} (G : Gl s0 E) {z : Sh} {h : Hp} {v0 : Nat} {v1 : Int64} {r : Int32} (hf : f_X12_whyNot z h v0 v1 = some r) : Ct l s0 E yX12_whyNot cX12_whyNot 3 (some .int) 4 94 [.ref v0, .long v1] z h h (some (.int r)) := by
  refine Ct.of G (by decide) (Nat.le_of_ble_eq_true rfl) ?_
  intro p e s m below meth c ls B hw hz hc0 hr hlk hl
  have B : Bd p s0 s E m c cX12_whyNot 3 RX12 := B
  have hx := B.1
  have hb := B.2.1
  have hl : lv_has ls 3 [(0, .ref v0), (1, .long v1)] := hl
  unfold f_X12_whyNot at hf
  obtain ⟨_, hf⟩ := if_some hf
  refine lv_lload_n hx hb dX12_whyNot_0 rfl (lv_at hl 1 rfl) ?_
  refine lv_lconst (v := 0) hx hb dX12_whyNot_1 (by decide) ?_
  refine lv_ldc2 hx hb B.2.2.2.1 (B.w tw_7_147 rfl) dX12_whyNot_2 ?_
  obtain ⟨x1, e, hf⟩ := ob hf
  refine q_callS (As := [.long v1, .long 0, .long 99]) (rest := []) (st1 := [.int x1]) (c_X12_within G e) B hw hz hc0 my_X12_within mv_X12_within tw_6_162 ⟨Nat.le_of_ble_eq_true rfl, Nat.le_of_ble_eq_true rfl⟩ ⟨Nat.zero_le _, Nat.zero_le _⟩ rfl hl.1 rfl rfl (Nat.le_of_ble_eq_true rfl) dX12_whyNot_5 (fun H locs hw => ?_)
  refine lv_if_eq (tgt := 26) hx hb dX12_whyNot_8 (by decide) (fun c2 => ?_) (fun c2 => ?_)
  · have hf := (if_pos c2).symm.trans hf
    refine lv_lload_n hx hb dX12_whyNot_26 rfl (lv_at hl 1 rfl) ?_
    refine lv_ldc2 hx hb B.2.2.2.1 (B.w tw_7_189 rfl) dX12_whyNot_27 ?_
    refine lv_ldc2 hx hb B.2.2.2.1 (B.w tw_7_190 rfl) dX12_whyNot_30 ?_
    obtain ⟨x3, e, hf⟩ := ob hf
    refine q_callS (As := [.long v1, .long 100, .long 109]) (rest := []) (st1 := [.int x3]) (c_X12_within G e) B hw hz hc0 my_X12_within mv_X12_within tw_6_162 ⟨Nat.le_of_ble_eq_true rfl, Nat.le_of_ble_eq_true rfl⟩ ⟨Nat.zero_le _, Nat.zero_le _⟩ rfl hl.1 rfl rfl (Nat.le_of_ble_eq_true rfl) dX12_whyNot_33 (fun H locs hw => ?_)
    refine lv_if_eq (tgt := 49) hx hb dX12_whyNot_36 (by decide) (fun c4 => ?_) (fun c4 => ?_)
    · have hf := (if_pos c4).symm.trans hf
      refine lv_lload_n hx hb dX12_whyNot_49 rfl (lv_at hl 1 rfl) ?_
      refine lv_ldc2 hx hb B.2.2.2.1 (B.w tw_7_191 rfl) dX12_whyNot_50 ?_
      refine lv_ldc2 hx hb B.2.2.2.1 (B.w tw_7_192 rfl) dX12_whyNot_53 ?_
      obtain ⟨x5, e, hf⟩ := ob hf
      refine q_callS (As := [.long v1, .long 110, .long 119]) (rest := []) (st1 := [.int x5]) (c_X12_within G e) B hw hz hc0 my_X12_within mv_X12_within tw_6_162 ⟨Nat.le_of_ble_eq_true rfl, Nat.le_of_ble_eq_true rfl⟩ ⟨Nat.zero_le _, Nat.zero_le _⟩ rfl hl.1 rfl rfl (Nat.le_of_ble_eq_true rfl) dX12_whyNot_56 (fun H locs hw => ?_)
      refine lv_if_eq (tgt := 72) hx hb dX12_whyNot_59 (by decide) (fun c6 => ?_) (fun c6 => ?_)
      · have hf := (if_pos c6).symm.trans hf
        refine lv_lload_n hx hb dX12_whyNot_72 rfl (lv_at hl 1 rfl) ?_
        refine lv_ldc2 hx hb B.2.2.2.1 (B.w tw_7_193 rfl) dX12_whyNot_73 ?_
        refine lv_ldc2 hx hb B.2.2.2.1 (B.w tw_7_194 rfl) dX12_whyNot_76 ?_
        obtain ⟨x7, e, hf⟩ := ob hf
        refine q_callS (As := [.long v1, .long 1000, .long 1999]) (rest := []) (st1 := [.int x7]) (c_X12_within G e) B hw hz hc0 my_X12_within mv_X12_within tw_6_162 ⟨Nat.le_of_ble_eq_true rfl, Nat.le_of_ble_eq_true rfl⟩ ⟨Nat.zero_le _, Nat.zero_le _⟩ rfl hl.1 rfl rfl (Nat.le_of_ble_eq_true rfl) dX12_whyNot_79 (fun H locs hw => ?_)
        refine lv_if_eq (tgt := 106) hx hb dX12_whyNot_82 (by decide) (fun c8 => ?_) (fun c8 => ?_)
        · have hf := (if_pos c8).symm.trans hf
          refine lv_iconst (v := 1) hx hb dX12_whyNot_106 (by decide) ?_
          obtain rfl := so hf
          exact q_iret B hw hz hc0 hr hlk dX12_whyNot_107
        · have hf := (if_neg c8).symm.trans hf
          refine lv_aload_n hx hb dX12_whyNot_85 rfl (lv_at hl 0 rfl) ?_
          refine lv_lload_n hx hb dX12_whyNot_86 rfl (lv_at hl 1 rfl) ?_
          refine lv_ldc2 hx hb B.2.2.2.1 (B.w tw_7_193 rfl) dX12_whyNot_87 ?_
          refine lv_lsub hx hb dX12_whyNot_90 ?_
          refine lv_ldc2 hx hb B.2.2.2.1 (B.w tw_7_189 rfl) dX12_whyNot_91 ?_
          obtain ⟨x9, e, hf⟩ := ob hf
          refine q_ldiv e hx hb dX12_whyNot_94 ?_
          refine lv_lload_n hx hb dX12_whyNot_95 rfl (lv_at hl 1 rfl) ?_
          refine lv_ldc2 hx hb B.2.2.2.1 (B.w tw_7_189 rfl) dX12_whyNot_96 ?_
          obtain ⟨x10, e, hf⟩ := ob hf
          refine q_lrem e hx hb dX12_whyNot_99 ?_
          obtain ⟨x11, e, hf⟩ := ob hf
          refine q_callV (As := [.long x9, .long x10]) (rest := []) (st1 := [.int x11]) (c_X12_whyPledge G e) B hw hz hc0 (k_X12_whyPledge e) (by decide) (ci := 12) rfl rfl my_X12_whyPledge mv_X12_whyPledge tw_7_143 ⟨Nat.le_of_ble_eq_true rfl, Nat.le_of_ble_eq_true rfl⟩ ⟨Nat.zero_le _, Nat.zero_le _⟩ rfl hl.1 rfl rfl (Nat.le_of_ble_eq_true rfl) dX12_whyNot_100 (fun H locs hw => ?_)
          refine lv_goto (tgt := 107) hx hb dX12_whyNot_103 (by decide) ?_
          obtain rfl := so hf
          exact q_iret B hw hz hc0 hr hlk dX12_whyNot_107
      · have hf := (if_neg c6).symm.trans hf
        refine lv_aload_n hx hb dX12_whyNot_62 rfl (lv_at hl 0 rfl) ?_
        refine lv_lload_n hx hb dX12_whyNot_63 rfl (lv_at hl 1 rfl) ?_
        refine lv_ldc2 hx hb B.2.2.2.1 (B.w tw_7_191 rfl) dX12_whyNot_64 ?_
        refine lv_lsub hx hb dX12_whyNot_67 ?_
        obtain ⟨x12, e, hf⟩ := ob hf
        refine q_callV (As := [.long (v1 - 110)]) (rest := []) (st1 := [.int x12]) (c_X12_whyRedeem G e) B hw hz hc0 (k_X12_whyRedeem e) (by decide) (ci := 12) rfl rfl my_X12_whyRedeem mv_X12_whyRedeem tw_7_156 ⟨Nat.le_of_ble_eq_true rfl, Nat.le_of_ble_eq_true rfl⟩ ⟨Nat.zero_le _, Nat.zero_le _⟩ rfl hl.1 rfl rfl (Nat.le_of_ble_eq_true rfl) dX12_whyNot_68 (fun H locs hw => ?_)
        obtain rfl := so hf
        exact q_iret B hw hz hc0 hr hlk dX12_whyNot_71
    · have hf := (if_neg c4).symm.trans hf
      refine lv_aload_n hx hb dX12_whyNot_39 rfl (lv_at hl 0 rfl) ?_
      refine lv_lload_n hx hb dX12_whyNot_40 rfl (lv_at hl 1 rfl) ?_
      refine lv_ldc2 hx hb B.2.2.2.1 (B.w tw_7_189 rfl) dX12_whyNot_41 ?_
      refine lv_lsub hx hb dX12_whyNot_44 ?_
      obtain ⟨x13, e, hf⟩ := ob hf
      refine q_callV (As := [.long (v1 - 100)]) (rest := []) (st1 := [.int x13]) (c_X12_whyDraw G e) B hw hz hc0 (k_X12_whyDraw e) (by decide) (ci := 12) rfl rfl my_X12_whyDraw mv_X12_whyDraw tw_7_127 ⟨Nat.le_of_ble_eq_true rfl, Nat.le_of_ble_eq_true rfl⟩ ⟨Nat.zero_le _, Nat.zero_le _⟩ rfl hl.1 rfl rfl (Nat.le_of_ble_eq_true rfl) dX12_whyNot_45 (fun H locs hw => ?_)
      obtain rfl := so hf
      exact q_iret B hw hz hc0 hr hlk dX12_whyNot_48
  · have hf := (if_neg c2).symm.trans hf
    refine lv_aload_n hx hb dX12_whyNot_11 rfl (lv_at hl 0 rfl) ?_
    refine lv_lload_n hx hb dX12_whyNot_12 rfl (lv_at hl 1 rfl) ?_
    refine lv_ldc2 hx hb B.2.2.2.1 (B.w tw_7_170 rfl) dX12_whyNot_13 ?_
    obtain ⟨x14, e, hf⟩ := ob hf
    refine q_ldiv e hx hb dX12_whyNot_16 ?_
    refine lv_lload_n hx hb dX12_whyNot_17 rfl (lv_at hl 1 rfl) ?_
    refine lv_ldc2 hx hb B.2.2.2.1 (B.w tw_7_170 rfl) dX12_whyNot_18 ?_
    obtain ⟨x15, e, hf⟩ := ob hf
    refine q_lrem e hx hb dX12_whyNot_21 ?_
    obtain ⟨x16, e, hf⟩ := ob hf
    refine q_callV (As := [.long x14, .long x15]) (rest := []) (st1 := [.int x16]) (c_X12_whyLive G e) B hw hz hc0 (k_X12_whyLive e) (by decide) (ci := 12) rfl rfl my_X12_whyLive mv_X12_whyLive tw_7_99 ⟨Nat.le_of_ble_eq_true rfl, Nat.le_of_ble_eq_true rfl⟩ ⟨Nat.zero_le _, Nat.zero_le _⟩ rfl hl.1 rfl rfl (Nat.le_of_ble_eq_true rfl) dX12_whyNot_22 (fun H locs hw => ?_)
    obtain rfl := so hf
    exact q_iret B hw hz hc0 hr hlk dX12_whyNot_25
/-! SecondLifeModel.does(I)V -/
def f_X12_does (n : Nat) (z : Sh) (h : Hp) (v0 : Nat) (v1 : Int32) : Option (Hp) :=
  if z.K v0 = 12 then
    if 100 ≤ v1 then
      if 110 ≤ v1 then
        if 120 ≤ v1 then
          (dvI (v1 - 1000) 100).bind fun x4 =>
          (rmI v1 100).bind fun x5 =>
          (f_X12_goes z h v0 x4 x5).bind fun h6 =>
          some h6
        else
          (gR z h 12 v0 1).bind fun a7 =>
          (ldI z h a7 ((60 + v1) - 110)).bind fun x8 =>
          (f_X12_goes z h v0 (v1 - 110) (-x8)).bind fun h9 =>
          some h9
      else
        (f_X12_drawsIt n z h v0 (v1 - 100)).bind fun h10 =>
        some h10
    else
      (dvI v1 10).bind fun x11 =>
      (rmI v1 10).bind fun x12 =>
      (f_X12_lives n z h v0 x11 x12).bind fun (x13, h14) =>
      some h14
  else none
theorem k_X12_does {n : Nat} {z : Sh} {h : Hp} {v0 : Nat} {v1 : Int32} {w : Hp} (hf : f_X12_does n z h v0 v1 = some w) : z.K v0 = 12 := by
  unfold f_X12_does at hf
  exact (if_some hf).1
set_option maxHeartbeats 4000000 in
theorem c_X12_does {l : Launch} {s0 : State} {E : Ev} (G : Gl s0 E) {n : Nat} {z : Sh} {h : Hp} {v0 : Nat} {v1 : Int32} {h' : Hp} (hf : f_X12_does n z h v0 v1 = some h') : Ct l s0 E yX12_does cX12_does 2 none 5 114 [.ref v0, .int v1] z h h' (none) := by
  refine Ct.of G (by decide) (Nat.le_of_ble_eq_true rfl) ?_
  intro p e s m below meth c ls B hw hz hc0 hr hlk hl
  have B : Bd p s0 s E m c cX12_does 2 RX12 := B
  have hx := B.1
  have hb := B.2.1
  have hl : lv_has ls 2 [(0, .ref v0), (1, .int v1)] := hl
  unfold f_X12_does at hf
  obtain ⟨_, hf⟩ := if_some hf
  refine lv_iload_n hx hb dX12_does_0 rfl (lv_at hl 1 rfl) ?_
  refine lv_bipush (v := 100) hx hb dX12_does_1 (by decide) ?_
  refine lv_icmp_ge (tgt := 22) hx hb dX12_does_3 (by decide) (fun c1 => ?_) (fun c1 => ?_)
  · have hf := (if_pos c1).symm.trans hf
    refine lv_iload_n hx hb dX12_does_22 rfl (lv_at hl 1 rfl) ?_
    refine lv_bipush (v := 110) hx hb dX12_does_23 (by decide) ?_
    refine lv_icmp_ge (tgt := 39) hx hb dX12_does_25 (by decide) (fun c2 => ?_) (fun c2 => ?_)
    · have hf := (if_pos c2).symm.trans hf
      refine lv_iload_n hx hb dX12_does_39 rfl (lv_at hl 1 rfl) ?_
      refine lv_bipush (v := 120) hx hb dX12_does_40 (by decide) ?_
      refine lv_icmp_ge (tgt := 69) hx hb dX12_does_42 (by decide) (fun c3 => ?_) (fun c3 => ?_)
      · have hf := (if_pos c3).symm.trans hf
        refine lv_aload_n hx hb dX12_does_69 rfl (lv_at hl 0 rfl) ?_
        refine lv_iload_n hx hb dX12_does_70 rfl (lv_at hl 1 rfl) ?_
        refine lv_sipush (v := 1000) hx hb dX12_does_71 (by decide) ?_
        refine lv_isub hx hb dX12_does_74 ?_
        refine lv_bipush (v := 100) hx hb dX12_does_75 (by decide) ?_
        obtain ⟨x4, e, hf⟩ := ob hf
        refine q_idiv e hx hb dX12_does_77 ?_
        refine lv_iload_n hx hb dX12_does_78 rfl (lv_at hl 1 rfl) ?_
        refine lv_bipush (v := 100) hx hb dX12_does_79 (by decide) ?_
        obtain ⟨x5, e, hf⟩ := ob hf
        refine q_irem e hx hb dX12_does_81 ?_
        obtain ⟨h6, e, hf⟩ := ob hf
        refine q_callV (As := [.int x4, .int x5]) (rest := []) (st1 := []) (c_X12_goes G e) B hw hz hc0 (k_X12_goes e) (by decide) (ci := 12) rfl rfl my_X12_goes mv_X12_goes tw_7_148 ⟨Nat.le_of_ble_eq_true rfl, Nat.le_of_ble_eq_true rfl⟩ ⟨Nat.zero_le _, Nat.zero_le _⟩ rfl hl.1 rfl rfl (Nat.le_of_ble_eq_true rfl) dX12_does_82 (fun H locs hw => ?_)
        obtain rfl := so hf
        exact q_vret B hw hz hc0 hr hlk dX12_does_85
      · have hf := (if_neg c3).symm.trans hf
        refine lv_aload_n hx hb dX12_does_45 rfl (lv_at hl 0 rfl) ?_
        refine lv_iload_n hx hb dX12_does_46 rfl (lv_at hl 1 rfl) ?_
        refine lv_bipush (v := 110) hx hb dX12_does_47 (by decide) ?_
        refine lv_isub hx hb dX12_does_49 ?_
        refine lv_aload_n hx hb dX12_does_50 rfl (lv_at hl 0 rfl) ?_
        obtain ⟨a7, e, hf⟩ := ob hf
        refine q_getR e B hw fd_12_1.1 fd_12_1.2.1 fd_12_1.2.2.1 fd_12_1.2.2.2.1 fd_12_1.2.2.2.2 rfl tw_6_44 dX12_does_51 ?_
        refine lv_bipush (v := 60) hx hb dX12_does_54 (by decide) ?_
        refine lv_iload_n hx hb dX12_does_56 rfl (lv_at hl 1 rfl) ?_
        refine lv_iadd hx hb dX12_does_57 ?_
        refine lv_bipush (v := 110) hx hb dX12_does_58 (by decide) ?_
        refine lv_isub hx hb dX12_does_60 ?_
        obtain ⟨x8, e, hf⟩ := ob hf
        refine q_ldI e B hw dX12_does_61 ?_
        refine lv_ineg hx hb dX12_does_62 ?_
        obtain ⟨h9, e, hf⟩ := ob hf
        refine q_callV (As := [.int (v1 - 110), .int (-x8)]) (rest := []) (st1 := []) (c_X12_goes G e) B hw hz hc0 (k_X12_goes e) (by decide) (ci := 12) rfl rfl my_X12_goes mv_X12_goes tw_7_148 ⟨Nat.le_of_ble_eq_true rfl, Nat.le_of_ble_eq_true rfl⟩ ⟨Nat.zero_le _, Nat.zero_le _⟩ rfl hl.1 rfl rfl (Nat.le_of_ble_eq_true rfl) dX12_does_63 (fun H locs hw => ?_)
        refine lv_goto (tgt := 85) hx hb dX12_does_66 (by decide) ?_
        obtain rfl := so hf
        exact q_vret B hw hz hc0 hr hlk dX12_does_85
    · have hf := (if_neg c2).symm.trans hf
      refine lv_aload_n hx hb dX12_does_28 rfl (lv_at hl 0 rfl) ?_
      refine lv_iload_n hx hb dX12_does_29 rfl (lv_at hl 1 rfl) ?_
      refine lv_bipush (v := 100) hx hb dX12_does_30 (by decide) ?_
      refine lv_isub hx hb dX12_does_32 ?_
      obtain ⟨h10, e, hf⟩ := ob hf
      refine q_callV (As := [.int (v1 - 100)]) (rest := []) (st1 := []) (c_X12_drawsIt G e) B hw hz hc0 (k_X12_drawsIt e) (by decide) (ci := 12) rfl rfl my_X12_drawsIt mv_X12_drawsIt tw_7_131 ⟨Nat.le_of_ble_eq_true rfl, Nat.le_of_ble_eq_true rfl⟩ ⟨Nat.zero_le _, Nat.zero_le _⟩ rfl hl.1 rfl rfl (Nat.le_of_ble_eq_true rfl) dX12_does_33 (fun H locs hw => ?_)
      refine lv_goto (tgt := 85) hx hb dX12_does_36 (by decide) ?_
      obtain rfl := so hf
      exact q_vret B hw hz hc0 hr hlk dX12_does_85
  · have hf := (if_neg c1).symm.trans hf
    refine lv_aload_n hx hb dX12_does_6 rfl (lv_at hl 0 rfl) ?_
    refine lv_iload_n hx hb dX12_does_7 rfl (lv_at hl 1 rfl) ?_
    refine lv_bipush (v := 10) hx hb dX12_does_8 (by decide) ?_
    obtain ⟨x11, e, hf⟩ := ob hf
    refine q_idiv e hx hb dX12_does_10 ?_
    refine lv_iload_n hx hb dX12_does_11 rfl (lv_at hl 1 rfl) ?_
    refine lv_bipush (v := 10) hx hb dX12_does_12 (by decide) ?_
    obtain ⟨x12, e, hf⟩ := ob hf
    refine q_irem e hx hb dX12_does_14 ?_
    obtain ⟨⟨x13, h14⟩, e, hf⟩ := ob hf
    refine q_callV (As := [.int x11, .int x12]) (rest := []) (st1 := [.int x13]) (c_X12_lives G e) B hw hz hc0 (k_X12_lives e) (by decide) (ci := 12) rfl rfl my_X12_lives mv_X12_lives tw_7_108 ⟨Nat.le_of_ble_eq_true rfl, Nat.le_of_ble_eq_true rfl⟩ ⟨Nat.zero_le _, Nat.zero_le _⟩ rfl hl.1 rfl rfl (Nat.le_of_ble_eq_true rfl) dX12_does_15 (fun H locs hw => ?_)
    refine lv_pop hx hb dX12_does_18 rfl ?_
    refine lv_goto (tgt := 85) hx hb dX12_does_19 (by decide) ?_
    obtain rfl := so hf
    exact q_vret B hw hz hc0 hr hlk dX12_does_85
/-! SecondLifeModel.tells(I)I -/
def f_X12_tells_7 (n : Nat) (z : Sh) : Nat → Hp → Nat → Int32 → Int32 → Option (Int32 × Hp)
  | 0, _, _, _, _ => none
  | i + 1, h, v0, v1, v2 =>
    (gR z h 12 v0 34).bind fun a1 =>
    (ldI z h a1 v1).bind fun x2 =>
    if x2 ≤ v2 then
      (gR z h 12 v0 34).bind fun a4 =>
      (ldI z h a4 v1).bind fun x5 =>
      some (x5, h)
    else
      (gR z h 12 v0 35).bind fun a6 =>
      (ldJ z h a6 ((40 * v1) + v2)).bind fun x7 =>
      (f_X12_whyNot z h v0 x7).bind fun x8 =>
      (pI z h 12 v0 19 x8).bind fun h9 =>
      (gI z h9 12 v0 19).bind fun x10 =>
      if x10 = 0 then
        (gR z h9 12 v0 35).bind fun a12 =>
        (ldJ z h9 a12 ((40 * v1) + v2)).bind fun x13 =>
        (f_X12_does n z h9 v0 (Int64.toInt32 x13)).bind fun h14 =>
        (some (v2 + 1)).bind fun x15 =>
        (f_X12_tells_7 n z i) h14 v0 v1 x15
      else
        some (v2, h9)
def f_X12_tells (n : Nat) (z : Sh) (h : Hp) (v0 : Nat) (v1 : Int32) : Option (Int32 × Hp) :=
  if z.K v0 = 12 then
    (pI z h 12 v0 19 0).bind fun h1 =>
    f_X12_tells_7 n z n h1 v0 v1 0
  else none
theorem k_X12_tells {n : Nat} {z : Sh} {h : Hp} {v0 : Nat} {v1 : Int32} {w : Int32 × Hp} (hf : f_X12_tells n z h v0 v1 = some w) : z.K v0 = 12 := by
  unfold f_X12_tells at hf
  exact (if_some hf).1
set_option maxHeartbeats 4000000 in
theorem w_X12_tells_7 {p : Program} {l : Launch} {e : Env} {s : State} {m : MethodId} {args : Array Value} {below : List Frame} {meth : Method} {c : Code} {s0 : State} {E : Ev} {z : Sh} {n : Nat} {r : Int32} {h' : Hp} (G : Gl s0 E) (B : Bd p s0 s E m c cX12_tells 3 RX12) (hz : s0.heap.size ≤ z.sz) (hc0 : s.heap.size + 0 = z.sz) (hr : meth.sig.returnType = (some .int)) (hlk : meth.locks = false) : ∀ (i : Nat), ∀ (h : Hp) (v0 : Nat) (v1 : Int32) (v2 : Int32) (H : Heap) (locs : List Loc) (ls : Array Slot), Pw s0 s E z h H locs → lv_has ls 3 [(0, .ref v0), (1, .int v1), (2, .int v2)] → f_X12_tells_7 n z i h v0 v1 v2 = some (r, h') → W p l e (rmO 6 135) s m args below meth c H locs 0 0 (Zt below s0 E z h' (some (.int r)) args s 0 0) (F0 m 7 ls []) := by
  have hx := B.1
  have hb := B.2.1
  intro i
  induction i with
  | zero =>
    intro h v0 v1 v2 H locs ls hw hl hf
    have hf := (f_X12_tells_7.eq_1 ..).symm.trans hf
    cases hf
  | succ i ih =>
    intro h v0 v1 v2 H locs ls hw hl hf
    have hf := (f_X12_tells_7.eq_2 ..).symm.trans hf
    refine lv_iload_n hx hb dX12_tells_7 rfl (lv_at hl 2 rfl) ?_
    refine lv_aload_n hx hb dX12_tells_8 rfl (lv_at hl 0 rfl) ?_
    obtain ⟨a1, e, hf⟩ := ob hf
    refine q_getR e B hw fd_12_34.1 fd_12_34.2.1 fd_12_34.2.2.1 fd_12_34.2.2.2.1 fd_12_34.2.2.2.2 rfl tw_6_77 dX12_tells_9 ?_
    refine lv_iload_n hx hb dX12_tells_12 rfl (lv_at hl 1 rfl) ?_
    obtain ⟨x2, e, hf⟩ := ob hf
    refine q_ldI e B hw dX12_tells_13 ?_
    refine lv_icmp_ge (tgt := 67) hx hb dX12_tells_14 (by decide) (fun c3 => ?_) (fun c3 => ?_)
    · have hf := (if_pos c3).symm.trans hf
      refine lv_aload_n hx hb dX12_tells_67 rfl (lv_at hl 0 rfl) ?_
      obtain ⟨a4, e, hf⟩ := ob hf
      refine q_getR e B hw fd_12_34.1 fd_12_34.2.1 fd_12_34.2.2.1 fd_12_34.2.2.2.1 fd_12_34.2.2.2.2 rfl tw_6_77 dX12_tells_68 ?_
      refine lv_iload_n hx hb dX12_tells_71 rfl (lv_at hl 1 rfl) ?_
      obtain ⟨x5, e, hf⟩ := ob hf
      refine q_ldI e B hw dX12_tells_72 ?_
      obtain ⟨rfl, rfl⟩ := so2 hf
      exact q_iret B hw hz hc0 hr hlk dX12_tells_73
    · have hf := (if_neg c3).symm.trans hf
      refine lv_aload_n hx hb dX12_tells_17 rfl (lv_at hl 0 rfl) ?_
      refine lv_aload_n hx hb dX12_tells_18 rfl (lv_at hl 0 rfl) ?_
      refine lv_aload_n hx hb dX12_tells_19 rfl (lv_at hl 0 rfl) ?_
      obtain ⟨a6, e, hf⟩ := ob hf
      refine q_getR e B hw fd_12_35.1 fd_12_35.2.1 fd_12_35.2.2.1 fd_12_35.2.2.2.1 fd_12_35.2.2.2.2 rfl tw_6_78 dX12_tells_20 ?_
      refine lv_bipush (v := 40) hx hb dX12_tells_23 (by decide) ?_
      refine lv_iload_n hx hb dX12_tells_25 rfl (lv_at hl 1 rfl) ?_
      refine lv_imul hx hb dX12_tells_26 ?_
      refine lv_iload_n hx hb dX12_tells_27 rfl (lv_at hl 2 rfl) ?_
      refine lv_iadd hx hb dX12_tells_28 ?_
      obtain ⟨x7, e, hf⟩ := ob hf
      refine q_ldJ e B hw dX12_tells_29 ?_
      obtain ⟨x8, e, hf⟩ := ob hf
      refine q_callV (As := [.long x7]) (rest := [.ref v0]) (st1 := [.int x8, .ref v0]) (c_X12_whyNot G e) B hw hz hc0 (k_X12_whyNot e) (by decide) (ci := 12) rfl rfl my_X12_whyNot mv_X12_whyNot tw_7_185 ⟨Nat.le_of_ble_eq_true rfl, Nat.le_of_ble_eq_true rfl⟩ ⟨Nat.zero_le _, Nat.zero_le _⟩ rfl hl.1 rfl rfl (Nat.le_of_ble_eq_true rfl) dX12_tells_30 (fun H locs hw => ?_)
      obtain ⟨h9, e, hf⟩ := ob hf
      refine q_putI e B hw fd_12_19.1 fd_12_19.2.1 fd_12_19.2.2.1 fd_12_19.2.2.2.1 fd_12_19.2.2.2.2 rfl rfl (tyX12_ok 19 (by decide)) tyX12 tyX12_ok nmX12 tw_6_62 dX12_tells_33 (fun H locs hw => ?_)
      refine lv_aload_n hx hb dX12_tells_36 rfl (lv_at hl 0 rfl) ?_
      obtain ⟨x10, e, hf⟩ := ob hf
      refine q_getI e B hw fd_12_19.1 fd_12_19.2.1 fd_12_19.2.2.1 fd_12_19.2.2.2.1 fd_12_19.2.2.2.2 rfl tw_6_62 dX12_tells_37 ?_
      refine lv_if_eq (tgt := 45) hx hb dX12_tells_40 (by decide) (fun c11 => ?_) (fun c11 => ?_)
      · have hf := (if_pos c11).symm.trans hf
        refine lv_aload_n hx hb dX12_tells_45 rfl (lv_at hl 0 rfl) ?_
        refine lv_aload_n hx hb dX12_tells_46 rfl (lv_at hl 0 rfl) ?_
        obtain ⟨a12, e, hf⟩ := ob hf
        refine q_getR e B hw fd_12_35.1 fd_12_35.2.1 fd_12_35.2.2.1 fd_12_35.2.2.2.1 fd_12_35.2.2.2.2 rfl tw_6_78 dX12_tells_47 ?_
        refine lv_bipush (v := 40) hx hb dX12_tells_50 (by decide) ?_
        refine lv_iload_n hx hb dX12_tells_52 rfl (lv_at hl 1 rfl) ?_
        refine lv_imul hx hb dX12_tells_53 ?_
        refine lv_iload_n hx hb dX12_tells_54 rfl (lv_at hl 2 rfl) ?_
        refine lv_iadd hx hb dX12_tells_55 ?_
        obtain ⟨x13, e, hf⟩ := ob hf
        refine q_ldJ e B hw dX12_tells_56 ?_
        refine lv_l2i (v := (Int64.toInt32 x13)) hx hb dX12_tells_57 rfl ?_
        obtain ⟨h14, e, hf⟩ := ob hf
        refine q_callV (As := [.int (Int64.toInt32 x13)]) (rest := []) (st1 := []) (c_X12_does G e) B hw hz hc0 (k_X12_does e) (by decide) (ci := 12) rfl rfl my_X12_does mv_X12_does tw_7_195 ⟨Nat.le_of_ble_eq_true rfl, Nat.le_of_ble_eq_true rfl⟩ ⟨Nat.zero_le _, Nat.zero_le _⟩ rfl hl.1 rfl rfl (Nat.le_of_ble_eq_true rfl) dX12_tells_58 (fun H locs hw => ?_)
        obtain ⟨x15, e, hf⟩ := ob hf
        refine lv_iinc (v := x15) (lv' := [(2, .int x15), (0, .ref v0), (1, .int v1)]) hx hb dX12_tells_61 hl (k := 2) rfl (Option.some.inj e) (by decide) rfl (fun ls hl => ?_)
        refine lv_goto (tgt := 7) hx hb dX12_tells_64 (by decide) ?_
        exact ih h14 v0 v1 x15 _ _ _ hw (lv_sub hl [1, 2, 0] rfl) hf
      · have hf := (if_neg c11).symm.trans hf
        refine lv_iload_n hx hb dX12_tells_43 rfl (lv_at hl 2 rfl) ?_
        obtain ⟨rfl, rfl⟩ := so2 hf
        exact q_iret B hw hz hc0 hr hlk dX12_tells_44
set_option maxHeartbeats 4000000 in
theorem c_X12_tells {l : Launch} {s0 : State} {E : Ev} (G : Gl s0 E) {n : Nat} {z : Sh} {h : Hp} {v0 : Nat} {v1 : Int32} {r : Int32} {h' : Hp} (hf : f_X12_tells n z h v0 v1 = some (r, h')) : Ct l s0 E yX12_tells cX12_tells 3 (some .int) 6 135 [.ref v0, .int v1] z h h' (some (.int r)) := by
  refine Ct.of G (by decide) (Nat.le_of_ble_eq_true rfl) ?_
  intro p e s m below meth c ls B hw hz hc0 hr hlk hl
  have B : Bd p s0 s E m c cX12_tells 3 RX12 := B
  have hx := B.1
  have hb := B.2.1
  have hl : lv_has ls 3 [(0, .ref v0), (1, .int v1)] := hl
  unfold f_X12_tells at hf
  obtain ⟨_, hf⟩ := if_some hf
  refine lv_aload_n hx hb dX12_tells_0 rfl (lv_at hl 0 rfl) ?_
  refine lv_iconst (v := 0) hx hb dX12_tells_1 (by decide) ?_
  obtain ⟨h1, e, hf⟩ := ob hf
  refine q_putI e B hw fd_12_19.1 fd_12_19.2.1 fd_12_19.2.2.1 fd_12_19.2.2.2.1 fd_12_19.2.2.2.2 rfl rfl (tyX12_ok 19 (by decide)) tyX12 tyX12_ok nmX12 tw_6_62 dX12_tells_2 (fun H locs hw => ?_)
  refine lv_iconst (v := 0) hx hb dX12_tells_5 (by decide) ?_
  refine lv_istore_n (lv' := [(2, .int 0), (0, .ref v0), (1, .int v1)]) hx hb dX12_tells_6 rfl hl (by decide) rfl (fun ls hl => ?_)
  exact w_X12_tells_7 G B hz hc0 hr hlk  n h1 v0 v1 0 _ _ _ hw (lv_sub hl [1, 2, 0] rfl) hf
