/-! SecondLife.redeem(I)I -/
def f_X11_redeem (z : Sh) (h : Hp) (v0 : Nat) (v1 : Int32) : Option (Int32 × Hp) :=
  if z.K v0 = 11 then
    (gR z h 11 v0 5).bind fun a1 =>
    (gR z h 11 v0 4).bind fun a2 =>
    (f_X5_copy z h a1 a2).bind fun h3 =>
    (gR z h3 11 v0 11).bind fun a4 =>
    (gR z h3 11 v0 4).bind fun a5 =>
    (f_X2_redeems z h3 a4 a5 v1).bind fun (x6, h7) =>
    if x6 = 0 then
      (gR z h7 11 v0 6).bind fun a9 =>
      (gR z h7 11 v0 5).bind fun a10 =>
      (f_X4_keep z h7 a9 a10).bind fun h11 =>
      (gR z h11 11 v0 4).bind fun a12 =>
      (gI z h11 5 a12 2).bind fun x13 =>
      some (x13, h11)
    else
      (f_X11_refused z h7 (10 + x6)).bind fun x14 =>
      some (x14, h7)
  else none
theorem k_X11_redeem {z : Sh} {h : Hp} {v0 : Nat} {v1 : Int32} {w : Int32 × Hp} (hf : f_X11_redeem z h v0 v1 = some w) : z.K v0 = 11 := by
  unfold f_X11_redeem at hf
  exact (if_some hf).1
set_option maxHeartbeats 4000000 in
theorem c_X11_redeem {l : Launch} {s0 : State} {E : Ev} (G : Gl s0 E) {z : Sh} {h : Hp} {v0 : Nat} {v1 : Int32} {r : Int32} {h' : Hp} (hf : f_X11_redeem z h v0 v1 = some (r, h')) : Ct l s0 E yX11_redeem cX11_redeem 3 (some .int) 3 103 [.ref v0, .int v1] z h h' (some (.int r)) := by
  refine Ct.of G (by decide) (Nat.le_of_ble_eq_true rfl) ?_
  intro p e s m below meth c ls B hw hz hc0 hr hlk hl
  have B : Bd p s0 s E m c cX11_redeem 3 RX11 := B
  have hx := B.1
  have hb := B.2.1
  have hl : lv_has ls 3 [(0, .ref v0), (1, .int v1)] := hl
  unfold f_X11_redeem at hf
  obtain ⟨_, hf⟩ := if_some hf
  refine lv_aload_n hx hb dX11_redeem_0 rfl (lv_at hl 0 rfl) ?_
  obtain ⟨a1, e, hf⟩ := ob hf
  refine q_getR e B hw fd_11_5.1 fd_11_5.2.1 fd_11_5.2.2.1 fd_11_5.2.2.2.1 fd_11_5.2.2.2.2 rfl tw_2_107 dX11_redeem_1 ?_
  refine lv_aload_n hx hb dX11_redeem_4 rfl (lv_at hl 0 rfl) ?_
  obtain ⟨a2, e, hf⟩ := ob hf
  refine q_getR e B hw fd_11_4.1 fd_11_4.2.1 fd_11_4.2.2.1 fd_11_4.2.2.2.1 fd_11_4.2.2.2.2 rfl tw_2_106 dX11_redeem_5 ?_
  obtain ⟨h3, e, hf⟩ := ob hf
  refine q_callVN (As := [.ref a2]) (rest := []) (st1 := []) (c_X5_copy G e) B hw hz hc0 (k_X5_copy e) (by decide) (ci := 5) rfl rfl my_X5_copy mv_X5_copy tw_4_29 ⟨Nat.le_of_ble_eq_true rfl, Nat.le_of_ble_eq_true rfl⟩ ⟨Nat.zero_le _, Nat.zero_le _⟩ rfl hl.1 rfl rfl (Nat.le_of_ble_eq_true rfl) dX11_redeem_8 (fun H locs hw => ?_)
  refine lv_aload_n hx hb dX11_redeem_11 rfl (lv_at hl 0 rfl) ?_
  obtain ⟨a4, e, hf⟩ := ob hf
  refine q_getR e B hw fd_11_11.1 fd_11_11.2.1 fd_11_11.2.2.1 fd_11_11.2.2.2.1 fd_11_11.2.2.2.2 rfl tw_2_113 dX11_redeem_12 ?_
  refine lv_aload_n hx hb dX11_redeem_15 rfl (lv_at hl 0 rfl) ?_
  obtain ⟨a5, e, hf⟩ := ob hf
  refine q_getR e B hw fd_11_4.1 fd_11_4.2.1 fd_11_4.2.2.1 fd_11_4.2.2.2.1 fd_11_4.2.2.2.2 rfl tw_2_106 dX11_redeem_16 ?_
  refine lv_iload_n hx hb dX11_redeem_19 rfl (lv_at hl 1 rfl) ?_
  obtain ⟨⟨x6, h7⟩, e, hf⟩ := ob hf
  refine q_callVN (As := [.ref a5, .int v1]) (rest := []) (st1 := [.int x6]) (c_X2_redeems G e) B hw hz hc0 (k_X2_redeems e) (by decide) (ci := 2) rfl rfl my_X2_redeems mv_X2_redeems tw_4_71 ⟨Nat.le_of_ble_eq_true rfl, Nat.le_of_ble_eq_true rfl⟩ ⟨Nat.zero_le _, Nat.zero_le _⟩ rfl hl.1 rfl rfl (Nat.le_of_ble_eq_true rfl) dX11_redeem_20 (fun H locs hw => ?_)
  refine lv_istore_n (lv' := [(2, .int x6), (0, .ref v0), (1, .int v1)]) hx hb dX11_redeem_23 rfl hl (by decide) rfl (fun ls hl => ?_)
  refine lv_iload_n hx hb dX11_redeem_24 rfl (lv_at hl 0 rfl) ?_
  refine lv_if_eq (tgt := 36) hx hb dX11_redeem_25 (by decide) (fun c8 => ?_) (fun c8 => ?_)
  · have hf := (if_pos c8).symm.trans hf
    refine lv_aload_n hx hb dX11_redeem_36 rfl (lv_at hl 1 rfl) ?_
    obtain ⟨a9, e, hf⟩ := ob hf
    refine q_getR e B hw fd_11_6.1 fd_11_6.2.1 fd_11_6.2.2.1 fd_11_6.2.2.2.1 fd_11_6.2.2.2.2 rfl tw_2_108 dX11_redeem_37 ?_
    refine lv_aload_n hx hb dX11_redeem_40 rfl (lv_at hl 1 rfl) ?_
    obtain ⟨a10, e, hf⟩ := ob hf
    refine q_getR e B hw fd_11_5.1 fd_11_5.2.1 fd_11_5.2.2.1 fd_11_5.2.2.2.1 fd_11_5.2.2.2.2 rfl tw_2_107 dX11_redeem_41 ?_
    obtain ⟨h11, e, hf⟩ := ob hf
    refine q_callVN (As := [.ref a10]) (rest := []) (st1 := []) (c_X4_keep G e) B hw hz hc0 (k_X4_keep e) (by decide) (ci := 4) rfl rfl my_X4_keep mv_X4_keep tw_4_44 ⟨Nat.le_of_ble_eq_true rfl, Nat.le_of_ble_eq_true rfl⟩ ⟨Nat.zero_le _, Nat.zero_le _⟩ rfl hl.1 rfl rfl (Nat.le_of_ble_eq_true rfl) dX11_redeem_44 (fun H locs hw => ?_)
    refine lv_aload_n hx hb dX11_redeem_47 rfl (lv_at hl 1 rfl) ?_
    obtain ⟨a12, e, hf⟩ := ob hf
    refine q_getR e B hw fd_11_4.1 fd_11_4.2.1 fd_11_4.2.2.1 fd_11_4.2.2.2.1 fd_11_4.2.2.2.2 rfl tw_2_106 dX11_redeem_48 ?_
    obtain ⟨x13, e, hf⟩ := ob hf
    refine q_getIN e B hw fd_5_2.1 fd_5_2.2.1 fd_5_2.2.2.1 fd_5_2.2.2.2.1 fd_5_2.2.2.2.2 rfl tw_1_155 dX11_redeem_51 ?_
    obtain ⟨rfl, rfl⟩ := so2 hf
    exact q_iret B hw hz hc0 hr hlk dX11_redeem_54
  · have hf := (if_neg c8).symm.trans hf
    refine lv_bipush (v := 10) hx hb dX11_redeem_28 (by decide) ?_
    refine lv_iload_n hx hb dX11_redeem_30 rfl (lv_at hl 0 rfl) ?_
    refine lv_iadd hx hb dX11_redeem_31 ?_
    obtain ⟨x14, e, hf⟩ := ob hf
    refine q_callS (As := [.int (10 + x6)]) (rest := []) (st1 := [.int x14]) (c_X11_refused G e) B hw hz hc0 my_X11_refused mv_X11_refused tw_2_155 ⟨Nat.le_of_ble_eq_true rfl, Nat.le_of_ble_eq_true rfl⟩ ⟨Nat.zero_le _, Nat.zero_le _⟩ rfl hl.1 rfl rfl (Nat.le_of_ble_eq_true rfl) dX11_redeem_32 (fun H locs hw => ?_)
    obtain ⟨rfl, rfl⟩ := so2 hf
    exact q_iret B hw hz hc0 hr hlk dX11_redeem_35
/-! SecondLife.talent(II)I -/
def f_X11_talent_21 (z : Sh) (h : Hp) : Option (Int32 × Hp) :=
  (f_X11_refused z h 11).bind fun x1 =>
  some (x1, h)
def f_X11_talent (z : Sh) (h : Hp) (v0 : Nat) (v1 : Int32) (v2 : Int32) : Option (Int32 × Hp) :=
  if z.K v0 = 11 then
    (gR z h 11 v0 4).bind fun a1 =>
    (f_X5_has z h a1 v1).bind fun x2 =>
    if x2 = 0 then
      f_X11_talent_21 z h
    else
      if v2 < 0 then
        f_X11_talent_21 z h
      else
        if v2 < 10 then
          (gR z h 11 v0 4).bind fun a6 =>
          (f_X5_part z h a6 v1 6).bind fun x7 =>
          (gR z h 11 v0 6).bind fun a8 =>
          (gR z h 11 v0 4).bind fun a9 =>
          (f_X4_keep z h a8 a9).bind fun h10 =>
          (gR z h10 11 v0 4).bind fun a11 =>
          (f_X5_put z h10 a11 v1 6 v2).bind fun h12 =>
          some (x7, h12)
        else
          f_X11_talent_21 z h
  else none
theorem k_X11_talent {z : Sh} {h : Hp} {v0 : Nat} {v1 : Int32} {v2 : Int32} {w : Int32 × Hp} (hf : f_X11_talent z h v0 v1 v2 = some w) : z.K v0 = 11 := by
  unfold f_X11_talent at hf
  exact (if_some hf).1
set_option maxHeartbeats 4000000 in
theorem w_X11_talent_21 {p : Program} {l : Launch} {e : Env} {s : State} {m : MethodId} {args : Array Value} {below : List Frame} {meth : Method} {c : Code} {s0 : State} {E : Ev} {z : Sh} {r : Int32} {h' : Hp} (G : Gl s0 E) (B : Bd p s0 s E m c cX11_talent 4 RX11) (hz : s0.heap.size ≤ z.sz) (hc0 : s.heap.size + 0 = z.sz) (hr : meth.sig.returnType = (some .int)) (hlk : meth.locks = false) : ∀ (h : Hp) (H : Heap) (locs : List Loc) (ls : Array Slot), Pw s0 s E z h H locs → lv_has ls 4 [] → f_X11_talent_21 z h = some (r, h') → W p l e (rmO 3 103) s m args below meth c H locs 0 0 (Zt below s0 E z h' (some (.int r)) args s 0 0) (F0 m 21 ls []) := by
  have hx := B.1
  have hb := B.2.1
  intro h H locs ls hw hl hf
  unfold f_X11_talent_21 at hf
  refine lv_bipush (v := 11) hx hb dX11_talent_21 (by decide) ?_
  obtain ⟨x1, e, hf⟩ := ob hf
  refine q_callS (As := [.int 11]) (rest := []) (st1 := [.int x1]) (c_X11_refused G e) B hw hz hc0 my_X11_refused mv_X11_refused tw_2_155 ⟨Nat.le_of_ble_eq_true rfl, Nat.le_of_ble_eq_true rfl⟩ ⟨Nat.zero_le _, Nat.zero_le _⟩ rfl hl.1 rfl rfl (Nat.le_of_ble_eq_true rfl) dX11_talent_23 (fun H locs hw => ?_)
  obtain ⟨rfl, rfl⟩ := so2 hf
  exact q_iret B hw hz hc0 hr hlk dX11_talent_26
set_option maxHeartbeats 4000000 in
theorem c_X11_talent {l : Launch} {s0 : State} {E : Ev} (G : Gl s0 E) {z : Sh} {h : Hp} {v0 : Nat} {v1 : Int32} {v2 : Int32} {r : Int32} {h' : Hp} (hf : f_X11_talent z h v0 v1 v2 = some (r, h')) : Ct l s0 E yX11_talent cX11_talent 4 (some .int) 3 103 [.ref v0, .int v1, .int v2] z h h' (some (.int r)) := by
  refine Ct.of G (by decide) (Nat.le_of_ble_eq_true rfl) ?_
  intro p e s m below meth c ls B hw hz hc0 hr hlk hl
  have B : Bd p s0 s E m c cX11_talent 4 RX11 := B
  have hx := B.1
  have hb := B.2.1
  have hl : lv_has ls 4 [(0, .ref v0), (1, .int v1), (2, .int v2)] := hl
  unfold f_X11_talent at hf
  obtain ⟨_, hf⟩ := if_some hf
  refine lv_aload_n hx hb dX11_talent_0 rfl (lv_at hl 0 rfl) ?_
  obtain ⟨a1, e, hf⟩ := ob hf
  refine q_getR e B hw fd_11_4.1 fd_11_4.2.1 fd_11_4.2.2.1 fd_11_4.2.2.2.1 fd_11_4.2.2.2.2 rfl tw_2_106 dX11_talent_1 ?_
  refine lv_iload_n hx hb dX11_talent_4 rfl (lv_at hl 1 rfl) ?_
  obtain ⟨x2, e, hf⟩ := ob hf
  refine q_callVN (As := [.int v1]) (rest := []) (st1 := [.int x2]) (c_X5_has G e) B hw hz hc0 (k_X5_has e) (by decide) (ci := 5) rfl rfl my_X5_has mv_X5_has tw_3_214 ⟨Nat.le_of_ble_eq_true rfl, Nat.le_of_ble_eq_true rfl⟩ ⟨Nat.zero_le _, Nat.zero_le _⟩ rfl hl.1 rfl rfl (Nat.le_of_ble_eq_true rfl) dX11_talent_5 (fun H locs hw => ?_)
  refine lv_if_eq (tgt := 21) hx hb dX11_talent_8 (by decide) (fun c3 => ?_) (fun c3 => ?_)
  · have hf := (if_pos c3).symm.trans hf
    exact w_X11_talent_21 G B hz hc0 hr hlk  h _ _ _ hw (lv_sub hl [] rfl) hf
  · have hf := (if_neg c3).symm.trans hf
    refine lv_iload_n hx hb dX11_talent_11 rfl (lv_at hl 2 rfl) ?_
    refine lv_if_lt (tgt := 21) hx hb dX11_talent_12 (by decide) (fun c4 => ?_) (fun c4 => ?_)
    · have hf := (if_pos c4).symm.trans hf
      exact w_X11_talent_21 G B hz hc0 hr hlk  h _ _ _ hw (lv_sub hl [] rfl) hf
    · have hf := (if_neg c4).symm.trans hf
      refine lv_iload_n hx hb dX11_talent_15 rfl (lv_at hl 2 rfl) ?_
      refine lv_bipush (v := 10) hx hb dX11_talent_16 (by decide) ?_
      refine lv_icmp_lt (tgt := 27) hx hb dX11_talent_18 (by decide) (fun c5 => ?_) (fun c5 => ?_)
      · have hf := (if_pos c5).symm.trans hf
        refine lv_aload_n hx hb dX11_talent_27 rfl (lv_at hl 0 rfl) ?_
        obtain ⟨a6, e, hf⟩ := ob hf
        refine q_getR e B hw fd_11_4.1 fd_11_4.2.1 fd_11_4.2.2.1 fd_11_4.2.2.2.1 fd_11_4.2.2.2.2 rfl tw_2_106 dX11_talent_28 ?_
        refine lv_iload_n hx hb dX11_talent_31 rfl (lv_at hl 1 rfl) ?_
        refine lv_bipush (v := 6) hx hb dX11_talent_32 (by decide) ?_
        obtain ⟨x7, e, hf⟩ := ob hf
        refine q_callVN (As := [.int v1, .int 6]) (rest := []) (st1 := [.int x7]) (c_X5_part G e) B hw hz hc0 (k_X5_part e) (by decide) (ci := 5) rfl rfl my_X5_part mv_X5_part tw_3_218 ⟨Nat.le_of_ble_eq_true rfl, Nat.le_of_ble_eq_true rfl⟩ ⟨Nat.zero_le _, Nat.zero_le _⟩ rfl hl.1 rfl rfl (Nat.le_of_ble_eq_true rfl) dX11_talent_34 (fun H locs hw => ?_)
        refine lv_istore_n (lv' := [(3, .int x7), (0, .ref v0), (1, .int v1), (2, .int v2)]) hx hb dX11_talent_37 rfl hl (by decide) rfl (fun ls hl => ?_)
        refine lv_aload_n hx hb dX11_talent_38 rfl (lv_at hl 1 rfl) ?_
        obtain ⟨a8, e, hf⟩ := ob hf
        refine q_getR e B hw fd_11_6.1 fd_11_6.2.1 fd_11_6.2.2.1 fd_11_6.2.2.2.1 fd_11_6.2.2.2.2 rfl tw_2_108 dX11_talent_39 ?_
        refine lv_aload_n hx hb dX11_talent_42 rfl (lv_at hl 1 rfl) ?_
        obtain ⟨a9, e, hf⟩ := ob hf
        refine q_getR e B hw fd_11_4.1 fd_11_4.2.1 fd_11_4.2.2.1 fd_11_4.2.2.2.1 fd_11_4.2.2.2.2 rfl tw_2_106 dX11_talent_43 ?_
        obtain ⟨h10, e, hf⟩ := ob hf
        refine q_callVN (As := [.ref a9]) (rest := []) (st1 := []) (c_X4_keep G e) B hw hz hc0 (k_X4_keep e) (by decide) (ci := 4) rfl rfl my_X4_keep mv_X4_keep tw_4_44 ⟨Nat.le_of_ble_eq_true rfl, Nat.le_of_ble_eq_true rfl⟩ ⟨Nat.zero_le _, Nat.zero_le _⟩ rfl hl.1 rfl rfl (Nat.le_of_ble_eq_true rfl) dX11_talent_46 (fun H locs hw => ?_)
        refine lv_aload_n hx hb dX11_talent_49 rfl (lv_at hl 1 rfl) ?_
        obtain ⟨a11, e, hf⟩ := ob hf
        refine q_getR e B hw fd_11_4.1 fd_11_4.2.1 fd_11_4.2.2.1 fd_11_4.2.2.2.1 fd_11_4.2.2.2.2 rfl tw_2_106 dX11_talent_50 ?_
        refine lv_iload_n hx hb dX11_talent_53 rfl (lv_at hl 2 rfl) ?_
        refine lv_bipush (v := 6) hx hb dX11_talent_54 (by decide) ?_
        refine lv_iload_n hx hb dX11_talent_56 rfl (lv_at hl 3 rfl) ?_
        obtain ⟨h12, e, hf⟩ := ob hf
        refine q_callVN (As := [.int v1, .int 6, .int v2]) (rest := []) (st1 := []) (c_X5_put G e) B hw hz hc0 (k_X5_put e) (by decide) (ci := 5) rfl rfl my_X5_put mv_X5_put tw_4_79 ⟨Nat.le_of_ble_eq_true rfl, Nat.le_of_ble_eq_true rfl⟩ ⟨Nat.zero_le _, Nat.zero_le _⟩ rfl hl.1 rfl rfl (Nat.le_of_ble_eq_true rfl) dX11_talent_57 (fun H locs hw => ?_)
        refine lv_iload_n hx hb dX11_talent_60 rfl (lv_at hl 0 rfl) ?_
        obtain ⟨rfl, rfl⟩ := so2 hf
        exact q_iret B hw hz hc0 hr hlk dX11_talent_61
      · have hf := (if_neg c5).symm.trans hf
        exact w_X11_talent_21 G B hz hc0 hr hlk  h _ _ _ hw (lv_sub hl [] rfl) hf
/-! SecondLife.undo(I)I -/
def f_X11_undo (z : Sh) (h : Hp) (v0 : Nat) (v1 : Int32) : Option (Int32 × Hp) :=
  if z.K v0 = 11 then
    (gR z h 11 v0 6).bind fun a1 =>
    (gR z h 11 v0 4).bind fun a2 =>
    (f_X4_bringBack z h a1 v1 a2).bind fun (x3, h4) =>
    if x3 = 0 then
      (f_X11_refused z h4 3).bind fun x8 =>
      some (x8, h4)
    else
      (gR z h4 11 v0 6).bind fun a6 =>
      (gI z h4 4 a6 2).bind fun x7 =>
      some (x7, h4)
  else none
theorem k_X11_undo {z : Sh} {h : Hp} {v0 : Nat} {v1 : Int32} {w : Int32 × Hp} (hf : f_X11_undo z h v0 v1 = some w) : z.K v0 = 11 := by
  unfold f_X11_undo at hf
  exact (if_some hf).1
set_option maxHeartbeats 4000000 in
theorem c_X11_undo {l : Launch} {s0 : State} {E : Ev} (G : Gl s0 E) {z : Sh} {h : Hp} {v0 : Nat} {v1 : Int32} {r : Int32} {h' : Hp} (hf : f_X11_undo z h v0 v1 = some (r, h')) : Ct l s0 E yX11_undo cX11_undo 2 (some .int) 3 105 [.ref v0, .int v1] z h h' (some (.int r)) := by
  refine Ct.of G (by decide) (Nat.le_of_ble_eq_true rfl) ?_
  intro p e s m below meth c ls B hw hz hc0 hr hlk hl
  have B : Bd p s0 s E m c cX11_undo 2 RX11 := B
  have hx := B.1
  have hb := B.2.1
  have hl : lv_has ls 2 [(0, .ref v0), (1, .int v1)] := hl
  unfold f_X11_undo at hf
  obtain ⟨_, hf⟩ := if_some hf
  refine lv_aload_n hx hb dX11_undo_0 rfl (lv_at hl 0 rfl) ?_
  obtain ⟨a1, e, hf⟩ := ob hf
  refine q_getR e B hw fd_11_6.1 fd_11_6.2.1 fd_11_6.2.2.1 fd_11_6.2.2.2.1 fd_11_6.2.2.2.2 rfl tw_2_108 dX11_undo_1 ?_
  refine lv_iload_n hx hb dX11_undo_4 rfl (lv_at hl 1 rfl) ?_
  refine lv_aload_n hx hb dX11_undo_5 rfl (lv_at hl 0 rfl) ?_
  obtain ⟨a2, e, hf⟩ := ob hf
  refine q_getR e B hw fd_11_4.1 fd_11_4.2.1 fd_11_4.2.2.1 fd_11_4.2.2.2.1 fd_11_4.2.2.2.2 rfl tw_2_106 dX11_undo_6 ?_
  obtain ⟨⟨x3, h4⟩, e, hf⟩ := ob hf
  refine q_callVN (As := [.int v1, .ref a2]) (rest := []) (st1 := [.int x3]) (c_X4_bringBack G e) B hw hz hc0 (k_X4_bringBack e) (by decide) (ci := 4) rfl rfl my_X4_bringBack mv_X4_bringBack tw_4_84 ⟨Nat.le_of_ble_eq_true rfl, Nat.le_of_ble_eq_true rfl⟩ ⟨Nat.zero_le _, Nat.zero_le _⟩ rfl hl.1 rfl rfl (Nat.le_of_ble_eq_true rfl) dX11_undo_9 (fun H locs hw => ?_)
  refine lv_if_ne (tgt := 20) hx hb dX11_undo_12 (by decide) (fun c5 => ?_) (fun c5 => ?_)
  · have hf := (if_neg c5).symm.trans hf
    refine lv_aload_n hx hb dX11_undo_20 rfl (lv_at hl 0 rfl) ?_
    obtain ⟨a6, e, hf⟩ := ob hf
    refine q_getR e B hw fd_11_6.1 fd_11_6.2.1 fd_11_6.2.2.1 fd_11_6.2.2.2.1 fd_11_6.2.2.2.2 rfl tw_2_108 dX11_undo_21 ?_
    obtain ⟨x7, e, hf⟩ := ob hf
    refine q_getIN e B hw fd_4_2.1 fd_4_2.2.1 fd_4_2.2.2.1 fd_4_2.2.2.2.1 fd_4_2.2.2.2.2 rfl tw_1_175 dX11_undo_24 ?_
    obtain ⟨rfl, rfl⟩ := so2 hf
    exact q_iret B hw hz hc0 hr hlk dX11_undo_27
  · have hf := (if_pos c5).symm.trans hf
    refine lv_iconst (v := 3) hx hb dX11_undo_15 (by decide) ?_
    obtain ⟨x8, e, hf⟩ := ob hf
    refine q_callS (As := [.int 3]) (rest := []) (st1 := [.int x8]) (c_X11_refused G e) B hw hz hc0 my_X11_refused mv_X11_refused tw_2_155 ⟨Nat.le_of_ble_eq_true rfl, Nat.le_of_ble_eq_true rfl⟩ ⟨Nat.zero_le _, Nat.zero_le _⟩ rfl hl.1 rfl rfl (Nat.le_of_ble_eq_true rfl) dX11_undo_16 (fun H locs hw => ?_)
    obtain ⟨rfl, rfl⟩ := so2 hf
    exact q_iret B hw hz hc0 hr hlk dX11_undo_19
/-! SecondLife.run(I)I -/
def f_X11_run (n : Nat) (z : Sh) (h : Hp) (v0 : Nat) (v1 : Int32) : Option (Int32) :=
  if z.K v0 = 11 then
    (gR z h 11 v0 4).bind fun a1 =>
    (f_X5_isSet z h a1 v1).bind fun x2 =>
    if x2 = 0 then
      (f_X11_refused z h 3).bind fun x4 =>
      some x4
    else
      (gR z h 11 v0 4).bind fun a5 =>
      (f_X5_runOf n z h a5 v1 0).bind fun x6 =>
      some x6
  else none
theorem k_X11_run {n : Nat} {z : Sh} {h : Hp} {v0 : Nat} {v1 : Int32} {w : Int32} (hf : f_X11_run n z h v0 v1 = some w) : z.K v0 = 11 := by
  unfold f_X11_run at hf
  exact (if_some hf).1
set_option maxHeartbeats 4000000 in
theorem c_X11_run {l : Launch} {s0 : State} {E : Ev} (G : Gl s0 E) {n : Nat} {z : Sh} {h : Hp} {v0 : Nat} {v1 : Int32} {r : Int32} (hf : f_X11_run n z h v0 v1 = some r) : Ct l s0 E yX11_run cX11_run 2 (some .int) 3 73 [.ref v0, .int v1] z h h (some (.int r)) := by
  refine Ct.of G (by decide) (Nat.le_of_ble_eq_true rfl) ?_
  intro p e s m below meth c ls B hw hz hc0 hr hlk hl
  have B : Bd p s0 s E m c cX11_run 2 RX11 := B
  have hx := B.1
  have hb := B.2.1
  have hl : lv_has ls 2 [(0, .ref v0), (1, .int v1)] := hl
  unfold f_X11_run at hf
  obtain ⟨_, hf⟩ := if_some hf
  refine lv_aload_n hx hb dX11_run_0 rfl (lv_at hl 0 rfl) ?_
  obtain ⟨a1, e, hf⟩ := ob hf
  refine q_getR e B hw fd_11_4.1 fd_11_4.2.1 fd_11_4.2.2.1 fd_11_4.2.2.2.1 fd_11_4.2.2.2.2 rfl tw_2_106 dX11_run_1 ?_
  refine lv_iload_n hx hb dX11_run_4 rfl (lv_at hl 1 rfl) ?_
  obtain ⟨x2, e, hf⟩ := ob hf
  refine q_callVN (As := [.int v1]) (rest := []) (st1 := [.int x2]) (c_X5_isSet G e) B hw hz hc0 (k_X5_isSet e) (by decide) (ci := 5) rfl rfl my_X5_isSet mv_X5_isSet tw_5_177 ⟨Nat.le_of_ble_eq_true rfl, Nat.le_of_ble_eq_true rfl⟩ ⟨Nat.zero_le _, Nat.zero_le _⟩ rfl hl.1 rfl rfl (Nat.le_of_ble_eq_true rfl) dX11_run_5 (fun H locs hw => ?_)
  refine lv_if_eq (tgt := 23) hx hb dX11_run_8 (by decide) (fun c3 => ?_) (fun c3 => ?_)
  · have hf := (if_pos c3).symm.trans hf
    refine lv_iconst (v := 3) hx hb dX11_run_23 (by decide) ?_
    obtain ⟨x4, e, hf⟩ := ob hf
    refine q_callS (As := [.int 3]) (rest := []) (st1 := [.int x4]) (c_X11_refused G e) B hw hz hc0 my_X11_refused mv_X11_refused tw_2_155 ⟨Nat.le_of_ble_eq_true rfl, Nat.le_of_ble_eq_true rfl⟩ ⟨Nat.zero_le _, Nat.zero_le _⟩ rfl hl.1 rfl rfl (Nat.le_of_ble_eq_true rfl) dX11_run_24 (fun H locs hw => ?_)
    obtain rfl := so hf
    exact q_iret B hw hz hc0 hr hlk dX11_run_27
  · have hf := (if_neg c3).symm.trans hf
    refine lv_aload_n hx hb dX11_run_11 rfl (lv_at hl 0 rfl) ?_
    obtain ⟨a5, e, hf⟩ := ob hf
    refine q_getR e B hw fd_11_4.1 fd_11_4.2.1 fd_11_4.2.2.1 fd_11_4.2.2.2.1 fd_11_4.2.2.2.2 rfl tw_2_106 dX11_run_12 ?_
    refine lv_iload_n hx hb dX11_run_15 rfl (lv_at hl 1 rfl) ?_
    refine lv_iconst (v := 0) hx hb dX11_run_16 (by decide) ?_
    obtain ⟨x6, e, hf⟩ := ob hf
    refine q_callVN (As := [.int v1, .int 0]) (rest := []) (st1 := [.int x6]) (c_X5_runOf G e) B hw hz hc0 (k_X5_runOf e) (by decide) (ci := 5) rfl rfl my_X5_runOf mv_X5_runOf tw_5_185 ⟨Nat.le_of_ble_eq_true rfl, Nat.le_of_ble_eq_true rfl⟩ ⟨Nat.zero_le _, Nat.zero_le _⟩ rfl hl.1 rfl rfl (Nat.le_of_ble_eq_true rfl) dX11_run_17 (fun H locs hw => ?_)
    refine lv_goto (tgt := 27) hx hb dX11_run_20 (by decide) ?_
    obtain rfl := so hf
    exact q_iret B hw hz hc0 hr hlk dX11_run_27
/-! SecondLife.rounds(I)I -/
def f_X11_rounds (n : Nat) (z : Sh) (h : Hp) (v0 : Nat) (v1 : Int32) : Option (Int32) :=
  if z.K v0 = 11 then
    (gR z h 11 v0 4).bind fun a1 =>
    (f_X5_isSet z h a1 v1).bind fun x2 =>
    if x2 = 0 then
      (f_X11_refused z h 3).bind fun x4 =>
      some x4
    else
      (gR z h 11 v0 4).bind fun a5 =>
      (f_X5_roundsOf n z h a5 v1).bind fun x6 =>
      some x6
  else none
theorem k_X11_rounds {n : Nat} {z : Sh} {h : Hp} {v0 : Nat} {v1 : Int32} {w : Int32} (hf : f_X11_rounds n z h v0 v1 = some w) : z.K v0 = 11 := by
  unfold f_X11_rounds at hf
  exact (if_some hf).1
set_option maxHeartbeats 4000000 in
theorem c_X11_rounds {l : Launch} {s0 : State} {E : Ev} (G : Gl s0 E) {n : Nat} {z : Sh} {h : Hp} {v0 : Nat} {v1 : Int32} {r : Int32} (hf : f_X11_rounds n z h v0 v1 = some r) : Ct l s0 E yX11_rounds cX11_rounds 2 (some .int) 3 72 [.ref v0, .int v1] z h h (some (.int r)) := by
  refine Ct.of G (by decide) (Nat.le_of_ble_eq_true rfl) ?_
  intro p e s m below meth c ls B hw hz hc0 hr hlk hl
  have B : Bd p s0 s E m c cX11_rounds 2 RX11 := B
  have hx := B.1
  have hb := B.2.1
  have hl : lv_has ls 2 [(0, .ref v0), (1, .int v1)] := hl
  unfold f_X11_rounds at hf
  obtain ⟨_, hf⟩ := if_some hf
  refine lv_aload_n hx hb dX11_rounds_0 rfl (lv_at hl 0 rfl) ?_
  obtain ⟨a1, e, hf⟩ := ob hf
  refine q_getR e B hw fd_11_4.1 fd_11_4.2.1 fd_11_4.2.2.1 fd_11_4.2.2.2.1 fd_11_4.2.2.2.2 rfl tw_2_106 dX11_rounds_1 ?_
  refine lv_iload_n hx hb dX11_rounds_4 rfl (lv_at hl 1 rfl) ?_
  obtain ⟨x2, e, hf⟩ := ob hf
  refine q_callVN (As := [.int v1]) (rest := []) (st1 := [.int x2]) (c_X5_isSet G e) B hw hz hc0 (k_X5_isSet e) (by decide) (ci := 5) rfl rfl my_X5_isSet mv_X5_isSet tw_5_177 ⟨Nat.le_of_ble_eq_true rfl, Nat.le_of_ble_eq_true rfl⟩ ⟨Nat.zero_le _, Nat.zero_le _⟩ rfl hl.1 rfl rfl (Nat.le_of_ble_eq_true rfl) dX11_rounds_5 (fun H locs hw => ?_)
  refine lv_if_eq (tgt := 22) hx hb dX11_rounds_8 (by decide) (fun c3 => ?_) (fun c3 => ?_)
  · have hf := (if_pos c3).symm.trans hf
    refine lv_iconst (v := 3) hx hb dX11_rounds_22 (by decide) ?_
    obtain ⟨x4, e, hf⟩ := ob hf
    refine q_callS (As := [.int 3]) (rest := []) (st1 := [.int x4]) (c_X11_refused G e) B hw hz hc0 my_X11_refused mv_X11_refused tw_2_155 ⟨Nat.le_of_ble_eq_true rfl, Nat.le_of_ble_eq_true rfl⟩ ⟨Nat.zero_le _, Nat.zero_le _⟩ rfl hl.1 rfl rfl (Nat.le_of_ble_eq_true rfl) dX11_rounds_23 (fun H locs hw => ?_)
    obtain rfl := so hf
    exact q_iret B hw hz hc0 hr hlk dX11_rounds_26
  · have hf := (if_neg c3).symm.trans hf
    refine lv_aload_n hx hb dX11_rounds_11 rfl (lv_at hl 0 rfl) ?_
    obtain ⟨a5, e, hf⟩ := ob hf
    refine q_getR e B hw fd_11_4.1 fd_11_4.2.1 fd_11_4.2.2.1 fd_11_4.2.2.2.1 fd_11_4.2.2.2.2 rfl tw_2_106 dX11_rounds_12 ?_
    refine lv_iload_n hx hb dX11_rounds_15 rfl (lv_at hl 1 rfl) ?_
    obtain ⟨x6, e, hf⟩ := ob hf
    refine q_callVN (As := [.int v1]) (rest := []) (st1 := [.int x6]) (c_X5_roundsOf G e) B hw hz hc0 (k_X5_roundsOf e) (by decide) (ci := 5) rfl rfl my_X5_roundsOf mv_X5_roundsOf tw_5_203 ⟨Nat.le_of_ble_eq_true rfl, Nat.le_of_ble_eq_true rfl⟩ ⟨Nat.zero_le _, Nat.zero_le _⟩ rfl hl.1 rfl rfl (Nat.le_of_ble_eq_true rfl) dX11_rounds_16 (fun H locs hw => ?_)
    refine lv_goto (tgt := 26) hx hb dX11_rounds_19 (by decide) ?_
    obtain rfl := so hf
    exact q_iret B hw hz hc0 hr hlk dX11_rounds_26
/-! SecondLife.spark(I)I -/
def f_X11_spark_72 (n : Nat) (z : Sh) (h : Hp) (k24 : Nat → Int32 → Int32 → Int32 → Int32 → Option (Int32)) (v0 : Nat) (v1 : Int32) (v2 : Int32) (v3 : Int32) (v4 : Int32) : Option (Int32) :=
  (some (v4 + 1)).bind fun x1 =>
  k24 v0 v1 v2 v3 x1
def f_X11_spark_24 (n : Nat) (z : Sh) (h : Hp) : Nat → Nat → Int32 → Int32 → Int32 → Int32 → Option (Int32)
  | 0, _, _, _, _, _ => none
  | i + 1, v0, v1, v2, v3, v4 =>
    (gR z h 11 v0 4).bind fun a1 =>
    (f_X5_everybody z h a1).bind fun x2 =>
    if x2 < v4 then
      some v2
    else
      (f_J6_bitCount_0f7a4 z h v4).bind fun x4 =>
      if v3 ≤ x4 then
        f_X11_spark_72 n z h (f_X11_spark_24 n z h i) v0 v1 v2 v3 v4
      else
        (gR z h 11 v0 4).bind fun a6 =>
        (f_X5_runOf n z h a6 v4 0).bind fun x7 =>
        (f_J6_bitCount_0f7a4 z h x7).bind fun x8 =>
        if x8 < v1 then
          f_X11_spark_72 n z h (f_X11_spark_24 n z h i) v0 v1 v2 v3 v4
        else
          f_X11_spark_72 n z h (f_X11_spark_24 n z h i) v0 v1 v4 x4 v4
def f_X11_spark_11 (n : Nat) (z : Sh) (h : Hp) : Option (Int32) :=
  (f_X11_refused z h 3).bind fun x1 =>
  some x1
def f_X11_spark (n : Nat) (z : Sh) (h : Hp) (v0 : Nat) (v1 : Int32) : Option (Int32) :=
  if z.K v0 = 11 then
    if v1 < 1 then
      f_X11_spark_11 n z h
    else
      if v1 ≤ 6 then
        f_X11_spark_24 n z h n v0 v1 (-1) 7 0
      else
        f_X11_spark_11 n z h
  else none
theorem k_X11_spark {n : Nat} {z : Sh} {h : Hp} {v0 : Nat} {v1 : Int32} {w : Int32} (hf : f_X11_spark n z h v0 v1 = some w) : z.K v0 = 11 := by
  unfold f_X11_spark at hf
  exact (if_some hf).1
set_option maxHeartbeats 4000000 in
theorem w_X11_spark_72 {p : Program} {l : Launch} {e : Env} {s : State} {m : MethodId} {args : Array Value} {below : List Frame} {meth : Method} {c : Code} {s0 : State} {E : Ev} {z : Sh} {h : Hp} {n : Nat} {k24 : Nat → Int32 → Int32 → Int32 → Int32 → Option (Int32)} {r : Int32} (G : Gl s0 E) (B : Bd p s0 s E m c cX11_spark 6 RX11) (hz : s0.heap.size ≤ z.sz) (hc0 : s.heap.size + 0 = z.sz) (hr : meth.sig.returnType = (some .int)) (hlk : meth.locks = false) (hk24 : ∀ (v0 : Nat) (v1 : Int32) (v2 : Int32) (v3 : Int32) (v4 : Int32) (H : Heap) (locs : List Loc) (ls : Array Slot), Pw s0 s E z h H locs → lv_has ls 6 [(0, .ref v0), (1, .int v1), (2, .int v2), (3, .int v3), (4, .int v4)] → k24 v0 v1 v2 v3 v4 = some r → W p l e (rmO 3 73) s m args below meth c H locs 0 0 (Zt below s0 E z h (some (.int r)) args s 0 0) (F0 m 24 ls [])) : ∀ (v0 : Nat) (v1 : Int32) (v2 : Int32) (v3 : Int32) (v4 : Int32) (H : Heap) (locs : List Loc) (ls : Array Slot), Pw s0 s E z h H locs → lv_has ls 6 [(0, .ref v0), (1, .int v1), (2, .int v2), (3, .int v3), (4, .int v4)] → f_X11_spark_72 n z h k24 v0 v1 v2 v3 v4 = some r → W p l e (rmO 3 73) s m args below meth c H locs 0 0 (Zt below s0 E z h (some (.int r)) args s 0 0) (F0 m 72 ls []) := by
  have hx := B.1
  have hb := B.2.1
  intro v0 v1 v2 v3 v4 H locs ls hw hl hf
  unfold f_X11_spark_72 at hf
  obtain ⟨x1, e, hf⟩ := ob hf
  refine lv_iinc (v := x1) (lv' := [(4, .int x1), (0, .ref v0), (1, .int v1), (2, .int v2), (3, .int v3)]) hx hb dX11_spark_72 hl (k := 4) rfl (Option.some.inj e) (by decide) rfl (fun ls hl => ?_)
  refine lv_goto (tgt := 24) hx hb dX11_spark_75 (by decide) ?_
  exact hk24 v0 v1 v2 v3 x1 _ _ _ hw (lv_sub hl [1, 2, 3, 4, 0] rfl) hf
set_option maxHeartbeats 4000000 in
theorem w_X11_spark_24 {p : Program} {l : Launch} {e : Env} {s : State} {m : MethodId} {args : Array Value} {below : List Frame} {meth : Method} {c : Code} {s0 : State} {E : Ev} {z : Sh} {h : Hp} {n : Nat} {r : Int32} (G : Gl s0 E) (B : Bd p s0 s E m c cX11_spark 6 RX11) (hz : s0.heap.size ≤ z.sz) (hc0 : s.heap.size + 0 = z.sz) (hr : meth.sig.returnType = (some .int)) (hlk : meth.locks = false) : ∀ (i : Nat), ∀ (v0 : Nat) (v1 : Int32) (v2 : Int32) (v3 : Int32) (v4 : Int32) (H : Heap) (locs : List Loc) (ls : Array Slot), Pw s0 s E z h H locs → lv_has ls 6 [(0, .ref v0), (1, .int v1), (2, .int v2), (3, .int v3), (4, .int v4)] → f_X11_spark_24 n z h i v0 v1 v2 v3 v4 = some r → W p l e (rmO 3 73) s m args below meth c H locs 0 0 (Zt below s0 E z h (some (.int r)) args s 0 0) (F0 m 24 ls []) := by
  have hx := B.1
  have hb := B.2.1
  intro i
  induction i with
  | zero =>
    intro v0 v1 v2 v3 v4 H locs ls hw hl hf
    have hf := (f_X11_spark_24.eq_1 ..).symm.trans hf
    cases hf
  | succ i ih =>
    intro v0 v1 v2 v3 v4 H locs ls hw hl hf
    have hf := (f_X11_spark_24.eq_2 ..).symm.trans hf
    refine lv_iload hx hb dX11_spark_24 (lv_at hl 4 rfl) ?_
    refine lv_aload_n hx hb dX11_spark_26 rfl (lv_at hl 0 rfl) ?_
    obtain ⟨a1, e, hf⟩ := ob hf
    refine q_getR e B hw fd_11_4.1 fd_11_4.2.1 fd_11_4.2.2.1 fd_11_4.2.2.2.1 fd_11_4.2.2.2.2 rfl tw_2_106 dX11_spark_27 ?_
    obtain ⟨x2, e, hf⟩ := ob hf
    refine q_callVN (As := []) (rest := [.int v4]) (st1 := [.int x2, .int v4]) (c_X5_everybody G e) B hw hz hc0 (k_X5_everybody e) (by decide) (ci := 5) rfl rfl my_X5_everybody mv_X5_everybody tw_5_211 ⟨Nat.le_of_ble_eq_true rfl, Nat.le_of_ble_eq_true rfl⟩ ⟨Nat.zero_le _, Nat.zero_le _⟩ rfl hl.1 rfl rfl (Nat.le_of_ble_eq_true rfl) dX11_spark_30 (fun H locs hw => ?_)
    refine lv_icmp_gt (tgt := 78) hx hb dX11_spark_33 (by decide) (fun c3 => ?_) (fun c3 => ?_)
    · have hf := (if_pos c3).symm.trans hf
      refine lv_iload_n hx hb dX11_spark_78 rfl (lv_at hl 2 rfl) ?_
      obtain rfl := so hf
      exact q_iret B hw hz hc0 hr hlk dX11_spark_79
    · have hf := (if_neg c3).symm.trans hf
      refine lv_iload hx hb dX11_spark_36 (lv_at hl 4 rfl) ?_
      obtain ⟨x4, e, hf⟩ := ob hf
      refine q_callS (As := [.int v4]) (rest := []) (st1 := [.int x4]) (c_J6_bitCount_0f7a4 G e) B hw hz hc0 my_J6_bitCount_0f7a4 mv_J6_bitCount_0f7a4 tw_5_212 ⟨Nat.le_of_ble_eq_true rfl, Nat.le_of_ble_eq_true rfl⟩ ⟨Nat.zero_le _, Nat.zero_le _⟩ rfl hl.1 rfl rfl (Nat.le_of_ble_eq_true rfl) dX11_spark_38 (fun H locs hw => ?_)
      refine lv_istore (lv' := [(5, .int x4), (0, .ref v0), (1, .int v1), (2, .int v2), (3, .int v3), (4, .int v4)]) hx hb dX11_spark_41 hl (by decide) rfl (fun ls hl => ?_)
      refine lv_iload hx hb dX11_spark_43 (lv_at hl 0 rfl) ?_
      refine lv_iload_n hx hb dX11_spark_45 rfl (lv_at hl 4 rfl) ?_
      refine lv_icmp_ge (tgt := 72) hx hb dX11_spark_46 (by decide) (fun c5 => ?_) (fun c5 => ?_)
      · have hf := (if_pos c5).symm.trans hf
        exact w_X11_spark_72 G B hz hc0 hr hlk ih v0 v1 v2 v3 v4 _ _ _ hw (lv_sub hl [1, 2, 3, 4, 5] rfl) hf
      · have hf := (if_neg c5).symm.trans hf
        refine lv_aload_n hx hb dX11_spark_49 rfl (lv_at hl 1 rfl) ?_
        obtain ⟨a6, e, hf⟩ := ob hf
        refine q_getR e B hw fd_11_4.1 fd_11_4.2.1 fd_11_4.2.2.1 fd_11_4.2.2.2.1 fd_11_4.2.2.2.2 rfl tw_2_106 dX11_spark_50 ?_
        refine lv_iload hx hb dX11_spark_53 (lv_at hl 5 rfl) ?_
        refine lv_iconst (v := 0) hx hb dX11_spark_55 (by decide) ?_
        obtain ⟨x7, e, hf⟩ := ob hf
        refine q_callVN (As := [.int v4, .int 0]) (rest := []) (st1 := [.int x7]) (c_X5_runOf G e) B hw hz hc0 (k_X5_runOf e) (by decide) (ci := 5) rfl rfl my_X5_runOf mv_X5_runOf tw_5_185 ⟨Nat.le_of_ble_eq_true rfl, Nat.le_of_ble_eq_true rfl⟩ ⟨Nat.zero_le _, Nat.zero_le _⟩ rfl hl.1 rfl rfl (Nat.le_of_ble_eq_true rfl) dX11_spark_56 (fun H locs hw => ?_)
        obtain ⟨x8, e, hf⟩ := ob hf
        refine q_callS (As := [.int x7]) (rest := []) (st1 := [.int x8]) (c_J6_bitCount_0f7a4 G e) B hw hz hc0 my_J6_bitCount_0f7a4 mv_J6_bitCount_0f7a4 tw_5_212 ⟨Nat.le_of_ble_eq_true rfl, Nat.le_of_ble_eq_true rfl⟩ ⟨Nat.zero_le _, Nat.zero_le _⟩ rfl hl.1 rfl rfl (Nat.le_of_ble_eq_true rfl) dX11_spark_59 (fun H locs hw => ?_)
        refine lv_iload_n hx hb dX11_spark_62 rfl (lv_at hl 2 rfl) ?_
        refine lv_icmp_lt (tgt := 72) hx hb dX11_spark_63 (by decide) (fun c9 => ?_) (fun c9 => ?_)
        · have hf := (if_pos c9).symm.trans hf
          exact w_X11_spark_72 G B hz hc0 hr hlk ih v0 v1 v2 v3 v4 _ _ _ hw (lv_sub hl [1, 2, 3, 4, 5] rfl) hf
        · have hf := (if_neg c9).symm.trans hf
          refine lv_iload hx hb dX11_spark_66 (lv_at hl 0 rfl) ?_
          refine lv_istore_n (lv' := [(3, .int x4), (5, .int x4), (0, .ref v0), (1, .int v1), (2, .int v2), (4, .int v4)]) hx hb dX11_spark_68 rfl hl (by decide) rfl (fun ls hl => ?_)
          refine lv_iload hx hb dX11_spark_69 (lv_at hl 5 rfl) ?_
          refine lv_istore_n (lv' := [(2, .int v4), (3, .int x4), (5, .int x4), (0, .ref v0), (1, .int v1), (4, .int v4)]) hx hb dX11_spark_71 rfl hl (by decide) rfl (fun ls hl => ?_)
          exact w_X11_spark_72 G B hz hc0 hr hlk ih v0 v1 v4 x4 v4 _ _ _ hw (lv_sub hl [3, 4, 0, 1, 5] rfl) hf
set_option maxHeartbeats 4000000 in
theorem w_X11_spark_11 {p : Program} {l : Launch} {e : Env} {s : State} {m : MethodId} {args : Array Value} {below : List Frame} {meth : Method} {c : Code} {s0 : State} {E : Ev} {z : Sh} {h : Hp} {n : Nat} {r : Int32} (G : Gl s0 E) (B : Bd p s0 s E m c cX11_spark 6 RX11) (hz : s0.heap.size ≤ z.sz) (hc0 : s.heap.size + 0 = z.sz) (hr : meth.sig.returnType = (some .int)) (hlk : meth.locks = false) : ∀ (H : Heap) (locs : List Loc) (ls : Array Slot), Pw s0 s E z h H locs → lv_has ls 6 [] → f_X11_spark_11 n z h = some r → W p l e (rmO 3 73) s m args below meth c H locs 0 0 (Zt below s0 E z h (some (.int r)) args s 0 0) (F0 m 11 ls []) := by
  have hx := B.1
  have hb := B.2.1
  intro  H locs ls hw hl hf
  unfold f_X11_spark_11 at hf
  refine lv_iconst (v := 3) hx hb dX11_spark_11 (by decide) ?_
  obtain ⟨x1, e, hf⟩ := ob hf
  refine q_callS (As := [.int 3]) (rest := []) (st1 := [.int x1]) (c_X11_refused G e) B hw hz hc0 my_X11_refused mv_X11_refused tw_2_155 ⟨Nat.le_of_ble_eq_true rfl, Nat.le_of_ble_eq_true rfl⟩ ⟨Nat.zero_le _, Nat.zero_le _⟩ rfl hl.1 rfl rfl (Nat.le_of_ble_eq_true rfl) dX11_spark_12 (fun H locs hw => ?_)
  obtain rfl := so hf
  exact q_iret B hw hz hc0 hr hlk dX11_spark_15
set_option maxHeartbeats 4000000 in
theorem c_X11_spark {l : Launch} {s0 : State} {E : Ev} (G : Gl s0 E) {n : Nat} {z : Sh} {h : Hp} {v0 : Nat} {v1 : Int32} {r : Int32} (hf : f_X11_spark n z h v0 v1 = some r) : Ct l s0 E yX11_spark cX11_spark 6 (some .int) 3 73 [.ref v0, .int v1] z h h (some (.int r)) := by
  refine Ct.of G (by decide) (Nat.le_of_ble_eq_true rfl) ?_
  intro p e s m below meth c ls B hw hz hc0 hr hlk hl
  have B : Bd p s0 s E m c cX11_spark 6 RX11 := B
  have hx := B.1
  have hb := B.2.1
  have hl : lv_has ls 6 [(0, .ref v0), (1, .int v1)] := hl
  unfold f_X11_spark at hf
  obtain ⟨_, hf⟩ := if_some hf
  refine lv_iload_n hx hb dX11_spark_0 rfl (lv_at hl 1 rfl) ?_
  refine lv_iconst (v := 1) hx hb dX11_spark_1 (by decide) ?_
  refine lv_icmp_lt (tgt := 11) hx hb dX11_spark_2 (by decide) (fun c1 => ?_) (fun c1 => ?_)
  · have hf := (if_pos c1).symm.trans hf
    exact w_X11_spark_11 G B hz hc0 hr hlk   _ _ _ hw (lv_sub hl [] rfl) hf
  · have hf := (if_neg c1).symm.trans hf
    refine lv_iload_n hx hb dX11_spark_5 rfl (lv_at hl 1 rfl) ?_
    refine lv_bipush (v := 6) hx hb dX11_spark_6 (by decide) ?_
    refine lv_icmp_le (tgt := 16) hx hb dX11_spark_8 (by decide) (fun c2 => ?_) (fun c2 => ?_)
    · have hf := (if_pos c2).symm.trans hf
      refine lv_iconst (v := (-1)) hx hb dX11_spark_16 (by decide) ?_
      refine lv_istore_n (lv' := [(2, .int (-1)), (0, .ref v0), (1, .int v1)]) hx hb dX11_spark_17 rfl hl (by decide) rfl (fun ls hl => ?_)
      refine lv_bipush (v := 7) hx hb dX11_spark_18 (by decide) ?_
      refine lv_istore_n (lv' := [(3, .int 7), (2, .int (-1)), (0, .ref v0), (1, .int v1)]) hx hb dX11_spark_20 rfl hl (by decide) rfl (fun ls hl => ?_)
      refine lv_iconst (v := 0) hx hb dX11_spark_21 (by decide) ?_
      refine lv_istore (lv' := [(4, .int 0), (3, .int 7), (2, .int (-1)), (0, .ref v0), (1, .int v1)]) hx hb dX11_spark_22 hl (by decide) rfl (fun ls hl => ?_)
      exact w_X11_spark_24 G B hz hc0 hr hlk  n v0 v1 (-1) 7 0 _ _ _ hw (lv_sub hl [3, 4, 2, 1, 0] rfl) hf
    · have hf := (if_neg c2).symm.trans hf
      exact w_X11_spark_11 G B hz hc0 hr hlk   _ _ _ hw (lv_sub hl [] rfl) hf
/-! SecondLife.calm(II)I -/
def f_X11_calm_92 (n : Nat) (z : Sh) (h : Hp) (k35 : Nat → Int32 → Int32 → Int32 → Int32 → Int32 → Option (Int32)) (v0 : Nat) (v1 : Int32) (v2 : Int32) (v3 : Int32) (v4 : Int32) (v5 : Int32) : Option (Int32) :=
  (some (v5 + 1)).bind fun x1 =>
  k35 v0 v1 v2 v3 v4 x1
def f_X11_calm_35 (n : Nat) (z : Sh) (h : Hp) : Nat → Nat → Int32 → Int32 → Int32 → Int32 → Int32 → Option (Int32)
  | 0, _, _, _, _, _, _ => none
  | i + 1, v0, v1, v2, v3, v4, v5 =>
    (gR z h 11 v0 4).bind fun a1 =>
    (f_X5_everybody z h a1).bind fun x2 =>
    if x2 < v5 then
      some v3
    else
      (f_J6_bitCount_0f7a4 z h v5).bind fun x4 =>
      if (v5 &&& v1) = 0 then
        if v4 ≤ x4 then
          f_X11_calm_92 n z h (f_X11_calm_35 n z h i) v0 v1 v2 v3 v4 v5
        else
          (gR z h 11 v0 4).bind fun a7 =>
          (f_X5_runOf n z h a7 v1 v5).bind fun x8 =>
          (f_J6_bitCount_0f7a4 z h x8).bind fun x9 =>
          if v2 < x9 then
            f_X11_calm_92 n z h (f_X11_calm_35 n z h i) v0 v1 v2 v3 v4 v5
          else
            f_X11_calm_92 n z h (f_X11_calm_35 n z h i) v0 v1 v2 v5 x4 v5
      else
        f_X11_calm_92 n z h (f_X11_calm_35 n z h i) v0 v1 v2 v3 v4 v5
def f_X11_calm_21 (n : Nat) (z : Sh) (h : Hp) : Option (Int32) :=
  (f_X11_refused z h 3).bind fun x1 =>
  some x1
def f_X11_calm (n : Nat) (z : Sh) (h : Hp) (v0 : Nat) (v1 : Int32) (v2 : Int32) : Option (Int32) :=
  if z.K v0 = 11 then
    (gR z h 11 v0 4).bind fun a1 =>
    (f_X5_isSet z h a1 v1).bind fun x2 =>
    if x2 = 0 then
      f_X11_calm_21 n z h
    else
      if v2 < 0 then
        f_X11_calm_21 n z h
      else
        if v2 ≤ 6 then
          f_X11_calm_35 n z h n v0 v1 v2 (-1) 7 0
        else
          f_X11_calm_21 n z h
  else none
theorem k_X11_calm {n : Nat} {z : Sh} {h : Hp} {v0 : Nat} {v1 : Int32} {v2 : Int32} {w : Int32} (hf : f_X11_calm n z h v0 v1 v2 = some w) : z.K v0 = 11 := by
  unfold f_X11_calm at hf
  exact (if_some hf).1
set_option maxHeartbeats 4000000 in
theorem w_X11_calm_92 {p : Program} {l : Launch} {e : Env} {s : State} {m : MethodId} {args : Array Value} {below : List Frame} {meth : Method} {c : Code} {s0 : State} {E : Ev} {z : Sh} {h : Hp} {n : Nat} {k35 : Nat → Int32 → Int32 → Int32 → Int32 → Int32 → Option (Int32)} {r : Int32} (G : Gl s0 E) (B : Bd p s0 s E m c cX11_calm 7 RX11) (hz : s0.heap.size ≤ z.sz) (hc0 : s.heap.size + 0 = z.sz) (hr : meth.sig.returnType = (some .int)) (hlk : meth.locks = false) (hk35 : ∀ (v0 : Nat) (v1 : Int32) (v2 : Int32) (v3 : Int32) (v4 : Int32) (v5 : Int32) (H : Heap) (locs : List Loc) (ls : Array Slot), Pw s0 s E z h H locs → lv_has ls 7 [(0, .ref v0), (1, .int v1), (2, .int v2), (3, .int v3), (4, .int v4), (5, .int v5)] → k35 v0 v1 v2 v3 v4 v5 = some r → W p l e (rmO 3 73) s m args below meth c H locs 0 0 (Zt below s0 E z h (some (.int r)) args s 0 0) (F0 m 35 ls [])) : ∀ (v0 : Nat) (v1 : Int32) (v2 : Int32) (v3 : Int32) (v4 : Int32) (v5 : Int32) (H : Heap) (locs : List Loc) (ls : Array Slot), Pw s0 s E z h H locs → lv_has ls 7 [(0, .ref v0), (1, .int v1), (2, .int v2), (3, .int v3), (4, .int v4), (5, .int v5)] → f_X11_calm_92 n z h k35 v0 v1 v2 v3 v4 v5 = some r → W p l e (rmO 3 73) s m args below meth c H locs 0 0 (Zt below s0 E z h (some (.int r)) args s 0 0) (F0 m 92 ls []) := by
  have hx := B.1
  have hb := B.2.1
  intro v0 v1 v2 v3 v4 v5 H locs ls hw hl hf
  unfold f_X11_calm_92 at hf
  obtain ⟨x1, e, hf⟩ := ob hf
  refine lv_iinc (v := x1) (lv' := [(5, .int x1), (0, .ref v0), (1, .int v1), (2, .int v2), (3, .int v3), (4, .int v4)]) hx hb dX11_calm_92 hl (k := 5) rfl (Option.some.inj e) (by decide) rfl (fun ls hl => ?_)
  refine lv_goto (tgt := 35) hx hb dX11_calm_95 (by decide) ?_
  exact hk35 v0 v1 v2 v3 v4 x1 _ _ _ hw (lv_sub hl [1, 2, 3, 4, 5, 0] rfl) hf
set_option maxHeartbeats 4000000 in
theorem w_X11_calm_35 {p : Program} {l : Launch} {e : Env} {s : State} {m : MethodId} {args : Array Value} {below : List Frame} {meth : Method} {c : Code} {s0 : State} {E : Ev} {z : Sh} {h : Hp} {n : Nat} {r : Int32} (G : Gl s0 E) (B : Bd p s0 s E m c cX11_calm 7 RX11) (hz : s0.heap.size ≤ z.sz) (hc0 : s.heap.size + 0 = z.sz) (hr : meth.sig.returnType = (some .int)) (hlk : meth.locks = false) : ∀ (i : Nat), ∀ (v0 : Nat) (v1 : Int32) (v2 : Int32) (v3 : Int32) (v4 : Int32) (v5 : Int32) (H : Heap) (locs : List Loc) (ls : Array Slot), Pw s0 s E z h H locs → lv_has ls 7 [(0, .ref v0), (1, .int v1), (2, .int v2), (3, .int v3), (4, .int v4), (5, .int v5)] → f_X11_calm_35 n z h i v0 v1 v2 v3 v4 v5 = some r → W p l e (rmO 3 73) s m args below meth c H locs 0 0 (Zt below s0 E z h (some (.int r)) args s 0 0) (F0 m 35 ls []) := by
  have hx := B.1
  have hb := B.2.1
  intro i
  induction i with
  | zero =>
    intro v0 v1 v2 v3 v4 v5 H locs ls hw hl hf
    have hf := (f_X11_calm_35.eq_1 ..).symm.trans hf
    cases hf
  | succ i ih =>
    intro v0 v1 v2 v3 v4 v5 H locs ls hw hl hf
    have hf := (f_X11_calm_35.eq_2 ..).symm.trans hf
    refine lv_iload hx hb dX11_calm_35 (lv_at hl 5 rfl) ?_
    refine lv_aload_n hx hb dX11_calm_37 rfl (lv_at hl 0 rfl) ?_
    obtain ⟨a1, e, hf⟩ := ob hf
    refine q_getR e B hw fd_11_4.1 fd_11_4.2.1 fd_11_4.2.2.1 fd_11_4.2.2.2.1 fd_11_4.2.2.2.2 rfl tw_2_106 dX11_calm_38 ?_
    obtain ⟨x2, e, hf⟩ := ob hf
    refine q_callVN (As := []) (rest := [.int v5]) (st1 := [.int x2, .int v5]) (c_X5_everybody G e) B hw hz hc0 (k_X5_everybody e) (by decide) (ci := 5) rfl rfl my_X5_everybody mv_X5_everybody tw_5_211 ⟨Nat.le_of_ble_eq_true rfl, Nat.le_of_ble_eq_true rfl⟩ ⟨Nat.zero_le _, Nat.zero_le _⟩ rfl hl.1 rfl rfl (Nat.le_of_ble_eq_true rfl) dX11_calm_41 (fun H locs hw => ?_)
    refine lv_icmp_gt (tgt := 98) hx hb dX11_calm_44 (by decide) (fun c3 => ?_) (fun c3 => ?_)
    · have hf := (if_pos c3).symm.trans hf
      refine lv_iload_n hx hb dX11_calm_98 rfl (lv_at hl 3 rfl) ?_
      obtain rfl := so hf
      exact q_iret B hw hz hc0 hr hlk dX11_calm_99
    · have hf := (if_neg c3).symm.trans hf
      refine lv_iload hx hb dX11_calm_47 (lv_at hl 5 rfl) ?_
      obtain ⟨x4, e, hf⟩ := ob hf
      refine q_callS (As := [.int v5]) (rest := []) (st1 := [.int x4]) (c_J6_bitCount_0f7a4 G e) B hw hz hc0 my_J6_bitCount_0f7a4 mv_J6_bitCount_0f7a4 tw_5_212 ⟨Nat.le_of_ble_eq_true rfl, Nat.le_of_ble_eq_true rfl⟩ ⟨Nat.zero_le _, Nat.zero_le _⟩ rfl hl.1 rfl rfl (Nat.le_of_ble_eq_true rfl) dX11_calm_49 (fun H locs hw => ?_)
      refine lv_istore (lv' := [(6, .int x4), (0, .ref v0), (1, .int v1), (2, .int v2), (3, .int v3), (4, .int v4), (5, .int v5)]) hx hb dX11_calm_52 hl (by decide) rfl (fun ls hl => ?_)
      refine lv_iload hx hb dX11_calm_54 (lv_at hl 6 rfl) ?_
      refine lv_iload_n hx hb dX11_calm_56 rfl (lv_at hl 2 rfl) ?_
      refine lv_iand hx hb dX11_calm_57 ?_
      refine lv_if_ne (tgt := 92) hx hb dX11_calm_58 (by decide) (fun c5 => ?_) (fun c5 => ?_)
      · have hf := (if_neg c5).symm.trans hf
        exact w_X11_calm_92 G B hz hc0 hr hlk ih v0 v1 v2 v3 v4 v5 _ _ _ hw (lv_sub hl [1, 2, 3, 4, 5, 6] rfl) hf
      · have hf := (if_pos c5).symm.trans hf
        refine lv_iload hx hb dX11_calm_61 (lv_at hl 0 rfl) ?_
        refine lv_iload hx hb dX11_calm_63 (lv_at hl 5 rfl) ?_
        refine lv_icmp_ge (tgt := 92) hx hb dX11_calm_65 (by decide) (fun c6 => ?_) (fun c6 => ?_)
        · have hf := (if_pos c6).symm.trans hf
          exact w_X11_calm_92 G B hz hc0 hr hlk ih v0 v1 v2 v3 v4 v5 _ _ _ hw (lv_sub hl [1, 2, 3, 4, 5, 6] rfl) hf
        · have hf := (if_neg c6).symm.trans hf
          refine lv_aload_n hx hb dX11_calm_68 rfl (lv_at hl 1 rfl) ?_
          obtain ⟨a7, e, hf⟩ := ob hf
          refine q_getR e B hw fd_11_4.1 fd_11_4.2.1 fd_11_4.2.2.1 fd_11_4.2.2.2.1 fd_11_4.2.2.2.2 rfl tw_2_106 dX11_calm_69 ?_
          refine lv_iload_n hx hb dX11_calm_72 rfl (lv_at hl 2 rfl) ?_
          refine lv_iload hx hb dX11_calm_73 (lv_at hl 6 rfl) ?_
          obtain ⟨x8, e, hf⟩ := ob hf
          refine q_callVN (As := [.int v1, .int v5]) (rest := []) (st1 := [.int x8]) (c_X5_runOf G e) B hw hz hc0 (k_X5_runOf e) (by decide) (ci := 5) rfl rfl my_X5_runOf mv_X5_runOf tw_5_185 ⟨Nat.le_of_ble_eq_true rfl, Nat.le_of_ble_eq_true rfl⟩ ⟨Nat.zero_le _, Nat.zero_le _⟩ rfl hl.1 rfl rfl (Nat.le_of_ble_eq_true rfl) dX11_calm_75 (fun H locs hw => ?_)
          obtain ⟨x9, e, hf⟩ := ob hf
          refine q_callS (As := [.int x8]) (rest := []) (st1 := [.int x9]) (c_J6_bitCount_0f7a4 G e) B hw hz hc0 my_J6_bitCount_0f7a4 mv_J6_bitCount_0f7a4 tw_5_212 ⟨Nat.le_of_ble_eq_true rfl, Nat.le_of_ble_eq_true rfl⟩ ⟨Nat.zero_le _, Nat.zero_le _⟩ rfl hl.1 rfl rfl (Nat.le_of_ble_eq_true rfl) dX11_calm_78 (fun H locs hw => ?_)
          refine lv_iload_n hx hb dX11_calm_81 rfl (lv_at hl 3 rfl) ?_
          refine lv_icmp_gt (tgt := 92) hx hb dX11_calm_82 (by decide) (fun c10 => ?_) (fun c10 => ?_)
          · have hf := (if_pos c10).symm.trans hf
            exact w_X11_calm_92 G B hz hc0 hr hlk ih v0 v1 v2 v3 v4 v5 _ _ _ hw (lv_sub hl [1, 2, 3, 4, 5, 6] rfl) hf
          · have hf := (if_neg c10).symm.trans hf
            refine lv_iload hx hb dX11_calm_85 (lv_at hl 0 rfl) ?_
            refine lv_istore (lv' := [(4, .int x4), (6, .int x4), (0, .ref v0), (1, .int v1), (2, .int v2), (3, .int v3), (5, .int v5)]) hx hb dX11_calm_87 hl (by decide) rfl (fun ls hl => ?_)
            refine lv_iload hx hb dX11_calm_89 (lv_at hl 6 rfl) ?_
            refine lv_istore_n (lv' := [(3, .int v5), (4, .int x4), (6, .int x4), (0, .ref v0), (1, .int v1), (2, .int v2), (5, .int v5)]) hx hb dX11_calm_91 rfl hl (by decide) rfl (fun ls hl => ?_)
            exact w_X11_calm_92 G B hz hc0 hr hlk ih v0 v1 v2 v5 x4 v5 _ _ _ hw (lv_sub hl [3, 4, 5, 0, 1, 6] rfl) hf
set_option maxHeartbeats 4000000 in
theorem w_X11_calm_21 {p : Program} {l : Launch} {e : Env} {s : State} {m : MethodId} {args : Array Value} {below : List Frame} {meth : Method} {c : Code} {s0 : State} {E : Ev} {z : Sh} {h : Hp} {n : Nat} {r : Int32} (G : Gl s0 E) (B : Bd p s0 s E m c cX11_calm 7 RX11) (hz : s0.heap.size ≤ z.sz) (hc0 : s.heap.size + 0 = z.sz) (hr : meth.sig.returnType = (some .int)) (hlk : meth.locks = false) : ∀ (H : Heap) (locs : List Loc) (ls : Array Slot), Pw s0 s E z h H locs → lv_has ls 7 [] → f_X11_calm_21 n z h = some r → W p l e (rmO 3 73) s m args below meth c H locs 0 0 (Zt below s0 E z h (some (.int r)) args s 0 0) (F0 m 21 ls []) := by
  have hx := B.1
  have hb := B.2.1
  intro  H locs ls hw hl hf
  unfold f_X11_calm_21 at hf
  refine lv_iconst (v := 3) hx hb dX11_calm_21 (by decide) ?_
  obtain ⟨x1, e, hf⟩ := ob hf
  refine q_callS (As := [.int 3]) (rest := []) (st1 := [.int x1]) (c_X11_refused G e) B hw hz hc0 my_X11_refused mv_X11_refused tw_2_155 ⟨Nat.le_of_ble_eq_true rfl, Nat.le_of_ble_eq_true rfl⟩ ⟨Nat.zero_le _, Nat.zero_le _⟩ rfl hl.1 rfl rfl (Nat.le_of_ble_eq_true rfl) dX11_calm_22 (fun H locs hw => ?_)
  obtain rfl := so hf
  exact q_iret B hw hz hc0 hr hlk dX11_calm_25
set_option maxHeartbeats 4000000 in
theorem c_X11_calm {l : Launch} {s0 : State} {E : Ev} (G : Gl s0 E) {n : Nat} {z : Sh} {h : Hp} {v0 : Nat} {v1 : Int32} {v2 : Int32} {r : Int32} (hf : f_X11_calm n z h v0 v1 v2 = some r) : Ct l s0 E yX11_calm cX11_calm 7 (some .int) 3 73 [.ref v0, .int v1, .int v2] z h h (some (.int r)) := by
  refine Ct.of G (by decide) (Nat.le_of_ble_eq_true rfl) ?_
  intro p e s m below meth c ls B hw hz hc0 hr hlk hl
  have B : Bd p s0 s E m c cX11_calm 7 RX11 := B
  have hx := B.1
  have hb := B.2.1
  have hl : lv_has ls 7 [(0, .ref v0), (1, .int v1), (2, .int v2)] := hl
  unfold f_X11_calm at hf
  obtain ⟨_, hf⟩ := if_some hf
  refine lv_aload_n hx hb dX11_calm_0 rfl (lv_at hl 0 rfl) ?_
  obtain ⟨a1, e, hf⟩ := ob hf
  refine q_getR e B hw fd_11_4.1 fd_11_4.2.1 fd_11_4.2.2.1 fd_11_4.2.2.2.1 fd_11_4.2.2.2.2 rfl tw_2_106 dX11_calm_1 ?_
  refine lv_iload_n hx hb dX11_calm_4 rfl (lv_at hl 1 rfl) ?_
  obtain ⟨x2, e, hf⟩ := ob hf
  refine q_callVN (As := [.int v1]) (rest := []) (st1 := [.int x2]) (c_X5_isSet G e) B hw hz hc0 (k_X5_isSet e) (by decide) (ci := 5) rfl rfl my_X5_isSet mv_X5_isSet tw_5_177 ⟨Nat.le_of_ble_eq_true rfl, Nat.le_of_ble_eq_true rfl⟩ ⟨Nat.zero_le _, Nat.zero_le _⟩ rfl hl.1 rfl rfl (Nat.le_of_ble_eq_true rfl) dX11_calm_5 (fun H locs hw => ?_)
  refine lv_if_eq (tgt := 21) hx hb dX11_calm_8 (by decide) (fun c3 => ?_) (fun c3 => ?_)
  · have hf := (if_pos c3).symm.trans hf
    exact w_X11_calm_21 G B hz hc0 hr hlk   _ _ _ hw (lv_sub hl [] rfl) hf
  · have hf := (if_neg c3).symm.trans hf
    refine lv_iload_n hx hb dX11_calm_11 rfl (lv_at hl 2 rfl) ?_
    refine lv_if_lt (tgt := 21) hx hb dX11_calm_12 (by decide) (fun c4 => ?_) (fun c4 => ?_)
    · have hf := (if_pos c4).symm.trans hf
      exact w_X11_calm_21 G B hz hc0 hr hlk   _ _ _ hw (lv_sub hl [] rfl) hf
    · have hf := (if_neg c4).symm.trans hf
      refine lv_iload_n hx hb dX11_calm_15 rfl (lv_at hl 2 rfl) ?_
      refine lv_bipush (v := 6) hx hb dX11_calm_16 (by decide) ?_
      refine lv_icmp_le (tgt := 26) hx hb dX11_calm_18 (by decide) (fun c5 => ?_) (fun c5 => ?_)
      · have hf := (if_pos c5).symm.trans hf
        refine lv_iconst (v := (-1)) hx hb dX11_calm_26 (by decide) ?_
        refine lv_istore_n (lv' := [(3, .int (-1)), (0, .ref v0), (1, .int v1), (2, .int v2)]) hx hb dX11_calm_27 rfl hl (by decide) rfl (fun ls hl => ?_)
        refine lv_bipush (v := 7) hx hb dX11_calm_28 (by decide) ?_
        refine lv_istore (lv' := [(4, .int 7), (3, .int (-1)), (0, .ref v0), (1, .int v1), (2, .int v2)]) hx hb dX11_calm_30 hl (by decide) rfl (fun ls hl => ?_)
        refine lv_iconst (v := 0) hx hb dX11_calm_32 (by decide) ?_
        refine lv_istore (lv' := [(5, .int 0), (4, .int 7), (3, .int (-1)), (0, .ref v0), (1, .int v1), (2, .int v2)]) hx hb dX11_calm_33 hl (by decide) rfl (fun ls hl => ?_)
        exact w_X11_calm_35 G B hz hc0 hr hlk  n v0 v1 v2 (-1) 7 0 _ _ _ hw (lv_sub hl [3, 4, 5, 2, 1, 0] rfl) hf
      · have hf := (if_neg c5).symm.trans hf
        exact w_X11_calm_21 G B hz hc0 hr hlk   _ _ _ hw (lv_sub hl [] rfl) hf
/-! SecondLife.rests()I -/
def f_X11_rests_29 (n : Nat) (z : Sh) (h : Hp) (k4 : Nat → Int32 → Int32 → Option (Int32)) (v0 : Nat) (v1 : Int32) (v2 : Int32) : Option (Int32) :=
  (some (v2 + 1)).bind fun x1 =>
  k4 v0 v1 x1
def f_X11_rests_4 (n : Nat) (z : Sh) (h : Hp) : Nat → Nat → Int32 → Int32 → Option (Int32)
  | 0, _, _, _ => none
  | i + 1, v0, v1, v2 =>
    (gR z h 11 v0 4).bind fun a1 =>
    (f_X5_everybody z h a1).bind fun x2 =>
    if x2 < v2 then
      some v1
    else
      (gR z h 11 v0 4).bind fun a4 =>
      (f_X5_atRest n z h a4 v2).bind fun x5 =>
      if x5 = 0 then
        f_X11_rests_29 n z h (f_X11_rests_4 n z h i) v0 v1 v2
      else
        (some (v1 + 1)).bind fun x7 =>
        f_X11_rests_29 n z h (f_X11_rests_4 n z h i) v0 x7 v2
def f_X11_rests (n : Nat) (z : Sh) (h : Hp) (v0 : Nat) : Option (Int32) :=
  if z.K v0 = 11 then
    f_X11_rests_4 n z h n v0 0 0
  else none
theorem k_X11_rests {n : Nat} {z : Sh} {h : Hp} {v0 : Nat} {w : Int32} (hf : f_X11_rests n z h v0 = some w) : z.K v0 = 11 := by
  unfold f_X11_rests at hf
  exact (if_some hf).1
set_option maxHeartbeats 4000000 in
theorem w_X11_rests_29 {p : Program} {l : Launch} {e : Env} {s : State} {m : MethodId} {args : Array Value} {below : List Frame} {meth : Method} {c : Code} {s0 : State} {E : Ev} {z : Sh} {h : Hp} {n : Nat} {k4 : Nat → Int32 → Int32 → Option (Int32)} {r : Int32} (G : Gl s0 E) (B : Bd p s0 s E m c cX11_rests 3 RX11) (hz : s0.heap.size ≤ z.sz) (hc0 : s.heap.size + 0 = z.sz) (hr : meth.sig.returnType = (some .int)) (hlk : meth.locks = false) (hk4 : ∀ (v0 : Nat) (v1 : Int32) (v2 : Int32) (H : Heap) (locs : List Loc) (ls : Array Slot), Pw s0 s E z h H locs → lv_has ls 3 [(0, .ref v0), (1, .int v1), (2, .int v2)] → k4 v0 v1 v2 = some r → W p l e (rmO 2 48) s m args below meth c H locs 0 0 (Zt below s0 E z h (some (.int r)) args s 0 0) (F0 m 4 ls [])) : ∀ (v0 : Nat) (v1 : Int32) (v2 : Int32) (H : Heap) (locs : List Loc) (ls : Array Slot), Pw s0 s E z h H locs → lv_has ls 3 [(0, .ref v0), (1, .int v1), (2, .int v2)] → f_X11_rests_29 n z h k4 v0 v1 v2 = some r → W p l e (rmO 2 48) s m args below meth c H locs 0 0 (Zt below s0 E z h (some (.int r)) args s 0 0) (F0 m 29 ls []) := by
  have hx := B.1
  have hb := B.2.1
  intro v0 v1 v2 H locs ls hw hl hf
  unfold f_X11_rests_29 at hf
  obtain ⟨x1, e, hf⟩ := ob hf
  refine lv_iinc (v := x1) (lv' := [(2, .int x1), (0, .ref v0), (1, .int v1)]) hx hb dX11_rests_29 hl (k := 2) rfl (Option.some.inj e) (by decide) rfl (fun ls hl => ?_)
  refine lv_goto (tgt := 4) hx hb dX11_rests_32 (by decide) ?_
  exact hk4 v0 v1 x1 _ _ _ hw (lv_sub hl [1, 2, 0] rfl) hf
set_option maxHeartbeats 4000000 in
theorem w_X11_rests_4 {p : Program} {l : Launch} {e : Env} {s : State} {m : MethodId} {args : Array Value} {below : List Frame} {meth : Method} {c : Code} {s0 : State} {E : Ev} {z : Sh} {h : Hp} {n : Nat} {r : Int32} (G : Gl s0 E) (B : Bd p s0 s E m c cX11_rests 3 RX11) (hz : s0.heap.size ≤ z.sz) (hc0 : s.heap.size + 0 = z.sz) (hr : meth.sig.returnType = (some .int)) (hlk : meth.locks = false) : ∀ (i : Nat), ∀ (v0 : Nat) (v1 : Int32) (v2 : Int32) (H : Heap) (locs : List Loc) (ls : Array Slot), Pw s0 s E z h H locs → lv_has ls 3 [(0, .ref v0), (1, .int v1), (2, .int v2)] → f_X11_rests_4 n z h i v0 v1 v2 = some r → W p l e (rmO 2 48) s m args below meth c H locs 0 0 (Zt below s0 E z h (some (.int r)) args s 0 0) (F0 m 4 ls []) := by
  have hx := B.1
  have hb := B.2.1
  intro i
  induction i with
  | zero =>
    intro v0 v1 v2 H locs ls hw hl hf
    have hf := (f_X11_rests_4.eq_1 ..).symm.trans hf
    cases hf
  | succ i ih =>
    intro v0 v1 v2 H locs ls hw hl hf
    have hf := (f_X11_rests_4.eq_2 ..).symm.trans hf
    refine lv_iload_n hx hb dX11_rests_4 rfl (lv_at hl 2 rfl) ?_
    refine lv_aload_n hx hb dX11_rests_5 rfl (lv_at hl 0 rfl) ?_
    obtain ⟨a1, e, hf⟩ := ob hf
    refine q_getR e B hw fd_11_4.1 fd_11_4.2.1 fd_11_4.2.2.1 fd_11_4.2.2.2.1 fd_11_4.2.2.2.2 rfl tw_2_106 dX11_rests_6 ?_
    obtain ⟨x2, e, hf⟩ := ob hf
    refine q_callVN (As := []) (rest := [.int v2]) (st1 := [.int x2, .int v2]) (c_X5_everybody G e) B hw hz hc0 (k_X5_everybody e) (by decide) (ci := 5) rfl rfl my_X5_everybody mv_X5_everybody tw_5_211 ⟨Nat.le_of_ble_eq_true rfl, Nat.le_of_ble_eq_true rfl⟩ ⟨Nat.zero_le _, Nat.zero_le _⟩ rfl hl.1 rfl rfl (Nat.le_of_ble_eq_true rfl) dX11_rests_9 (fun H locs hw => ?_)
    refine lv_icmp_gt (tgt := 35) hx hb dX11_rests_12 (by decide) (fun c3 => ?_) (fun c3 => ?_)
    · have hf := (if_pos c3).symm.trans hf
      refine lv_iload_n hx hb dX11_rests_35 rfl (lv_at hl 1 rfl) ?_
      obtain rfl := so hf
      exact q_iret B hw hz hc0 hr hlk dX11_rests_36
    · have hf := (if_neg c3).symm.trans hf
      refine lv_aload_n hx hb dX11_rests_15 rfl (lv_at hl 0 rfl) ?_
      obtain ⟨a4, e, hf⟩ := ob hf
      refine q_getR e B hw fd_11_4.1 fd_11_4.2.1 fd_11_4.2.2.1 fd_11_4.2.2.2.1 fd_11_4.2.2.2.2 rfl tw_2_106 dX11_rests_16 ?_
      refine lv_iload_n hx hb dX11_rests_19 rfl (lv_at hl 2 rfl) ?_
      obtain ⟨x5, e, hf⟩ := ob hf
      refine q_callVN (As := [.int v2]) (rest := []) (st1 := [.int x5]) (c_X5_atRest G e) B hw hz hc0 (k_X5_atRest e) (by decide) (ci := 5) rfl rfl my_X5_atRest mv_X5_atRest tw_5_221 ⟨Nat.le_of_ble_eq_true rfl, Nat.le_of_ble_eq_true rfl⟩ ⟨Nat.zero_le _, Nat.zero_le _⟩ rfl hl.1 rfl rfl (Nat.le_of_ble_eq_true rfl) dX11_rests_20 (fun H locs hw => ?_)
      refine lv_if_eq (tgt := 29) hx hb dX11_rests_23 (by decide) (fun c6 => ?_) (fun c6 => ?_)
      · have hf := (if_pos c6).symm.trans hf
        exact w_X11_rests_29 G B hz hc0 hr hlk ih v0 v1 v2 _ _ _ hw (lv_sub hl [0, 1, 2] rfl) hf
      · have hf := (if_neg c6).symm.trans hf
        obtain ⟨x7, e, hf⟩ := ob hf
        refine lv_iinc (v := x7) (lv' := [(1, .int x7), (0, .ref v0), (2, .int v2)]) hx hb dX11_rests_26 hl (k := 1) rfl (Option.some.inj e) (by decide) rfl (fun ls hl => ?_)
        exact w_X11_rests_29 G B hz hc0 hr hlk ih v0 x7 v2 _ _ _ hw (lv_sub hl [1, 0, 2] rfl) hf
set_option maxHeartbeats 4000000 in
theorem c_X11_rests {l : Launch} {s0 : State} {E : Ev} (G : Gl s0 E) {n : Nat} {z : Sh} {h : Hp} {v0 : Nat} {r : Int32} (hf : f_X11_rests n z h v0 = some r) : Ct l s0 E yX11_rests cX11_rests 3 (some .int) 2 48 [.ref v0] z h h (some (.int r)) := by
  refine Ct.of G (by decide) (Nat.le_of_ble_eq_true rfl) ?_
  intro p e s m below meth c ls B hw hz hc0 hr hlk hl
  have B : Bd p s0 s E m c cX11_rests 3 RX11 := B
  have hx := B.1
  have hb := B.2.1
  have hl : lv_has ls 3 [(0, .ref v0)] := hl
  unfold f_X11_rests at hf
  obtain ⟨_, hf⟩ := if_some hf
  refine lv_iconst (v := 0) hx hb dX11_rests_0 (by decide) ?_
  refine lv_istore_n (lv' := [(1, .int 0), (0, .ref v0)]) hx hb dX11_rests_1 rfl hl (by decide) rfl (fun ls hl => ?_)
  refine lv_iconst (v := 0) hx hb dX11_rests_2 (by decide) ?_
  refine lv_istore_n (lv' := [(2, .int 0), (1, .int 0), (0, .ref v0)]) hx hb dX11_rests_3 rfl hl (by decide) rfl (fun ls hl => ?_)
  exact w_X11_rests_4 G B hz hc0 hr hlk  n v0 0 0 _ _ _ hw (lv_sub hl [2, 1, 0] rfl) hf
