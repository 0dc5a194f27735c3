/-! SecondLifeModel.choice(I)I -/
def f_X12_choice_45 (n : Nat) (z : Sh) : Nat → Hp → Nat → Int32 → Int64 → Int32 → Option (Int32 × Hp)
  | 0, _, _, _, _, _ => none
  | i + 1, h, v0, v2, v3, v5 =>
    (gR z h 12 v0 1).bind fun a1 =>
    (ldI z h a1 2).bind fun x2 =>
    if x2 ≤ v5 then
      some ((9 : Int32), h)
    else
      (f_X12_isOver z h v0 v2).bind fun x4 =>
      if x4 = 0 then
        (f_X12_livedMean n z h v0 v2 v5).bind fun (x6, h7) =>
        if (lg_cmp x6 v3) = 0 then
          some (v5, h7)
        else
          (some (v5 + 1)).bind fun x9 =>
          (f_X12_choice_45 n z i) h7 v0 v2 v3 x9
      else
        some ((9 : Int32), h)
def f_X12_choice (n : Nat) (z : Sh) (h : Hp) (v0 : Nat) (v1 : Int32) : Option (Int32 × Hp) :=
  if z.K v0 = 12 then
    (pI z h 12 v0 0 0).bind fun h1 =>
    (f_X12_isPerson z h1 v0 (Int32.toInt64 v1)).bind fun x2 =>
    if x2 = 0 then
      some (((-99000002) : Int32), h1)
    else
      (f_X12_begins n z h1 v0 v1).bind fun h4 =>
      (f_X12_standNow z h4 v0 v1).bind fun x5 =>
      (f_X12_meanFrom n z h4 v0 x5).bind fun (x6, h7) =>
      if (lg_cmp x6 0) = 0 then
        some (((-1) : Int32), h7)
      else
        f_X12_choice_45 n z n h7 v0 x5 x6 0
  else none
theorem k_X12_choice {n : Nat} {z : Sh} {h : Hp} {v0 : Nat} {v1 : Int32} {w : Int32 × Hp} (hf : f_X12_choice n z h v0 v1 = some w) : z.K v0 = 12 := by
  unfold f_X12_choice at hf
  exact (if_some hf).1
set_option maxHeartbeats 4000000 in
theorem w_X12_choice_45 {p : Program} {l : Launch} {e : Env} {s : State} {m : MethodId} {args : Array Value} {below : List Frame} {meth : Method} {c : Code} {s0 : State} {E : Ev} {z : Sh} {n : Nat} {r : Int32} {h' : Hp} (G : Gl s0 E) (B : Bd p s0 s E m c cX12_choice 6 RX12) (hz : s0.heap.size ≤ z.sz) (hc0 : s.heap.size + 0 = z.sz) (hr : meth.sig.returnType = (some .int)) (hlk : meth.locks = false) : ∀ (i : Nat), ∀ (h : Hp) (v0 : Nat) (v2 : Int32) (v3 : Int64) (v5 : Int32) (H : Heap) (locs : List Loc) (ls : Array Slot), Pw s0 s E z h H locs → lv_has ls 6 [(0, .ref v0), (2, .int v2), (3, .long v3), (5, .int v5)] → f_X12_choice_45 n z i h v0 v2 v3 v5 = some (r, h') → W p l e (rmO 66 3720) s m args below meth c H locs 0 0 (Zt below s0 E z h' (some (.int r)) args s 0 0) (F0 m 45 ls []) := by
  have hx := B.1
  have hb := B.2.1
  intro i
  induction i with
  | zero =>
    intro h v0 v2 v3 v5 H locs ls hw hl hf
    have hf := (f_X12_choice_45.eq_1 ..).symm.trans hf
    cases hf
  | succ i ih =>
    intro h v0 v2 v3 v5 H locs ls hw hl hf
    have hf := (f_X12_choice_45.eq_2 ..).symm.trans hf
    refine lv_iload hx hb dX12_choice_45 (lv_at hl 3 rfl) ?_
    refine lv_aload_n hx hb dX12_choice_47 rfl (lv_at hl 0 rfl) ?_
    obtain ⟨a1, e, hf⟩ := ob hf
    refine q_getR e B hw fd_12_1.1 fd_12_1.2.1 fd_12_1.2.2.1 fd_12_1.2.2.2.1 fd_12_1.2.2.2.2 rfl tw_6_44 dX12_choice_48 ?_
    refine lv_iconst (v := 2) hx hb dX12_choice_51 (by decide) ?_
    obtain ⟨x2, e, hf⟩ := ob hf
    refine q_ldI e B hw dX12_choice_52 ?_
    refine lv_icmp_ge (tgt := 85) hx hb dX12_choice_53 (by decide) (fun c3 => ?_) (fun c3 => ?_)
    · have hf := (if_pos c3).symm.trans hf
      refine lv_bipush (v := 9) hx hb dX12_choice_85 (by decide) ?_
      obtain ⟨rfl, rfl⟩ := so2 hf
      exact q_iret B hw hz hc0 hr hlk dX12_choice_87
    · have hf := (if_neg c3).symm.trans hf
      refine lv_aload_n hx hb dX12_choice_56 rfl (lv_at hl 0 rfl) ?_
      refine lv_iload_n hx hb dX12_choice_57 rfl (lv_at hl 1 rfl) ?_
      obtain ⟨x4, e, hf⟩ := ob hf
      refine q_callV (As := [.int v2]) (rest := []) (st1 := [.int x4]) (c_X12_isOver G e) B hw hz hc0 (k_X12_isOver e) (by decide) (ci := 12) rfl rfl my_X12_isOver mv_X12_isOver tw_7_55 ⟨Nat.le_of_ble_eq_true rfl, Nat.le_of_ble_eq_true rfl⟩ ⟨Nat.zero_le _, Nat.zero_le _⟩ rfl hl.1 rfl rfl (Nat.le_of_ble_eq_true rfl) dX12_choice_58 (fun H locs hw => ?_)
      refine lv_if_ne (tgt := 85) hx hb dX12_choice_61 (by decide) (fun c5 => ?_) (fun c5 => ?_)
      · have hf := (if_neg c5).symm.trans hf
        refine lv_bipush (v := 9) hx hb dX12_choice_85 (by decide) ?_
        obtain ⟨rfl, rfl⟩ := so2 hf
        exact q_iret B hw hz hc0 hr hlk dX12_choice_87
      · have hf := (if_pos c5).symm.trans hf
        refine lv_aload_n hx hb dX12_choice_64 rfl (lv_at hl 0 rfl) ?_
        refine lv_iload_n hx hb dX12_choice_65 rfl (lv_at hl 1 rfl) ?_
        refine lv_iload hx hb dX12_choice_66 (lv_at hl 3 rfl) ?_
        obtain ⟨⟨x6, h7⟩, e, hf⟩ := ob hf
        refine q_callV (As := [.int v2, .int v5]) (rest := []) (st1 := [.long x6]) (c_X12_livedMean G e) B hw hz hc0 (k_X12_livedMean e) (by decide) (ci := 12) rfl rfl my_X12_livedMean mv_X12_livedMean tw_8_59 ⟨Nat.le_of_ble_eq_true rfl, Nat.le_of_ble_eq_true rfl⟩ ⟨Nat.zero_le _, Nat.zero_le _⟩ rfl hl.1 rfl rfl (Nat.le_of_ble_eq_true rfl) dX12_choice_68 (fun H locs hw => ?_)
        refine lv_lload_n hx hb dX12_choice_71 rfl (lv_at hl 2 rfl) ?_
        refine W.lcmp hx hb dX12_choice_72 ?_
        refine lv_if_ne (tgt := 79) hx hb dX12_choice_73 (by decide) (fun c8 => ?_) (fun c8 => ?_)
        · have hf := (if_neg c8).symm.trans hf
          obtain ⟨x9, e, hf⟩ := ob hf
          refine lv_iinc (v := x9) (lv' := [(5, .int x9), (0, .ref v0), (2, .int v2), (3, .long v3)]) hx hb dX12_choice_79 hl (k := 3) rfl (Option.some.inj e) (by decide) rfl (fun ls hl => ?_)
          refine lv_goto (tgt := 45) hx hb dX12_choice_82 (by decide) ?_
          exact ih h7 v0 v2 v3 x9 _ _ _ hw (lv_sub hl [1, 2, 3, 0] rfl) hf
        · have hf := (if_pos c8).symm.trans hf
          refine lv_iload hx hb dX12_choice_76 (lv_at hl 3 rfl) ?_
          obtain ⟨rfl, rfl⟩ := so2 hf
          exact q_iret B hw hz hc0 hr hlk dX12_choice_78
set_option maxHeartbeats 4000000 in
theorem c_X12_choice {l : Launch} {s0 : State} {E : Ev} (G : Gl s0 E) {n : Nat} {z : Sh} {h : Hp} {v0 : Nat} {v1 : Int32} {r : Int32} {h' : Hp} (hf : f_X12_choice n z h v0 v1 = some (r, h')) : Ct l s0 E yX12_choice cX12_choice 6 (some .int) 66 3720 [.ref v0, .int v1] z h h' (some (.int r)) := by
  refine Ct.of G (by decide) (Nat.le_of_ble_eq_true rfl) ?_
  intro p e s m below meth c ls B hw hz hc0 hr hlk hl
  have B : Bd p s0 s E m c cX12_choice 6 RX12 := B
  have hx := B.1
  have hb := B.2.1
  have hl : lv_has ls 6 [(0, .ref v0), (1, .int v1)] := hl
  unfold f_X12_choice at hf
  obtain ⟨_, hf⟩ := if_some hf
  refine lv_aload_n hx hb dX12_choice_0 rfl (lv_at hl 0 rfl) ?_
  refine lv_iconst (v := 0) hx hb dX12_choice_1 (by decide) ?_
  obtain ⟨h1, e, hf⟩ := ob hf
  refine q_putI e B hw fd_12_0.1 fd_12_0.2.1 fd_12_0.2.2.1 fd_12_0.2.2.2.1 fd_12_0.2.2.2.2 rfl rfl (tyX12_ok 0 (by decide)) tyX12 tyX12_ok nmX12 tw_6_43 dX12_choice_2 (fun H locs hw => ?_)
  refine lv_aload_n hx hb dX12_choice_5 rfl (lv_at hl 0 rfl) ?_
  refine lv_iload_n hx hb dX12_choice_6 rfl (lv_at hl 1 rfl) ?_
  refine lv_i2l (v := (Int32.toInt64 v1)) hx hb dX12_choice_7 rfl ?_
  obtain ⟨x2, e, hf⟩ := ob hf
  refine q_callV (As := [.long (Int32.toInt64 v1)]) (rest := []) (st1 := [.int x2]) (c_X12_isPerson G e) B hw hz hc0 (k_X12_isPerson e) (by decide) (ci := 12) rfl rfl my_X12_isPerson mv_X12_isPerson tw_7_35 ⟨Nat.le_of_ble_eq_true rfl, Nat.le_of_ble_eq_true rfl⟩ ⟨Nat.zero_le _, Nat.zero_le _⟩ rfl hl.1 rfl rfl (Nat.le_of_ble_eq_true rfl) dX12_choice_8 (fun H locs hw => ?_)
  refine lv_if_ne (tgt := 17) hx hb dX12_choice_11 (by decide) (fun c3 => ?_) (fun c3 => ?_)
  · have hf := (if_neg c3).symm.trans hf
    refine lv_aload_n hx hb dX12_choice_17 rfl (lv_at hl 0 rfl) ?_
    refine lv_iload_n hx hb dX12_choice_18 rfl (lv_at hl 1 rfl) ?_
    obtain ⟨h4, e, hf⟩ := ob hf
    refine q_callV (As := [.int v1]) (rest := []) (st1 := []) (c_X12_begins G e) B hw hz hc0 (k_X12_begins e) (by decide) (ci := 12) rfl rfl my_X12_begins mv_X12_begins tw_7_233 ⟨Nat.le_of_ble_eq_true rfl, Nat.le_of_ble_eq_true rfl⟩ ⟨Nat.zero_le _, Nat.zero_le _⟩ rfl hl.1 rfl rfl (Nat.le_of_ble_eq_true rfl) dX12_choice_19 (fun H locs hw => ?_)
    refine lv_aload_n hx hb dX12_choice_22 rfl (lv_at hl 0 rfl) ?_
    refine lv_iload_n hx hb dX12_choice_23 rfl (lv_at hl 1 rfl) ?_
    obtain ⟨x5, e, hf⟩ := ob hf
    refine q_callV (As := [.int v1]) (rest := []) (st1 := [.int x5]) (c_X12_standNow G e) B hw hz hc0 (k_X12_standNow e) (by decide) (ci := 12) rfl rfl my_X12_standNow mv_X12_standNow tw_7_48 ⟨Nat.le_of_ble_eq_true rfl, Nat.le_of_ble_eq_true rfl⟩ ⟨Nat.zero_le _, Nat.zero_le _⟩ rfl hl.1 rfl rfl (Nat.le_of_ble_eq_true rfl) dX12_choice_24 (fun H locs hw => ?_)
    refine lv_istore_n (lv' := [(2, .int x5), (0, .ref v0), (1, .int v1)]) hx hb dX12_choice_27 rfl hl (by decide) rfl (fun ls hl => ?_)
    refine lv_aload_n hx hb dX12_choice_28 rfl (lv_at hl 1 rfl) ?_
    refine lv_iload_n hx hb dX12_choice_29 rfl (lv_at hl 0 rfl) ?_
    obtain ⟨⟨x6, h7⟩, e, hf⟩ := ob hf
    refine q_callV (As := [.int x5]) (rest := []) (st1 := [.long x6]) (c_X12_meanFrom G e) B hw hz hc0 (k_X12_meanFrom e) (by decide) (ci := 12) rfl rfl my_X12_meanFrom mv_X12_meanFrom tw_8_51 ⟨Nat.le_of_ble_eq_true rfl, Nat.le_of_ble_eq_true rfl⟩ ⟨Nat.zero_le _, Nat.zero_le _⟩ rfl hl.1 rfl rfl (Nat.le_of_ble_eq_true rfl) dX12_choice_30 (fun H locs hw => ?_)
    refine lv_lstore_n (lv' := [(3, .long x6), (2, .int x5), (0, .ref v0), (1, .int v1)]) hx hb dX12_choice_33 rfl hl (by decide) rfl (fun ls hl => ?_)
    refine lv_lload_n hx hb dX12_choice_34 rfl (lv_at hl 0 rfl) ?_
    refine lv_lconst (v := 0) hx hb dX12_choice_35 (by decide) ?_
    refine W.lcmp hx hb dX12_choice_36 ?_
    refine lv_if_ne (tgt := 42) hx hb dX12_choice_37 (by decide) (fun c8 => ?_) (fun c8 => ?_)
    · have hf := (if_neg c8).symm.trans hf
      refine lv_iconst (v := 0) hx hb dX12_choice_42 (by decide) ?_
      refine lv_istore (lv' := [(5, .int 0), (3, .long x6), (2, .int x5), (0, .ref v0), (1, .int v1)]) hx hb dX12_choice_43 hl (by decide) rfl (fun ls hl => ?_)
      exact w_X12_choice_45 G B hz hc0 hr hlk  n h7 v0 x5 x6 0 _ _ _ hw (lv_sub hl [3, 2, 1, 0] rfl) hf
    · have hf := (if_pos c8).symm.trans hf
      refine lv_iconst (v := (-1)) hx hb dX12_choice_40 (by decide) ?_
      obtain ⟨rfl, rfl⟩ := so2 hf
      exact q_iret B hw hz hc0 hr hlk dX12_choice_41
  · have hf := (if_pos c3).symm.trans hf
    refine lv_ldc hx hb B.2.2.2.1 (B.w tw_7_39 rfl) dX12_choice_14 ?_
    obtain ⟨rfl, rfl⟩ := so2 hf
    exact q_iret B hw hz hc0 hr hlk dX12_choice_16
/-! SecondLifeModel.drawing(I)I -/
def f_X12_drawing (n : Nat) (z : Sh) (h : Hp) (v0 : Nat) (v1 : Int32) : Option (Int32 × Hp) :=
  if z.K v0 = 12 then
    (pI z h 12 v0 0 0).bind fun h1 =>
    (f_X12_isPerson z h1 v0 (Int32.toInt64 v1)).bind fun x2 =>
    if x2 = 0 then
      some (((-99000002) : Int32), h1)
    else
      (f_X12_begins n z h1 v0 v1).bind fun h4 =>
      (f_X12_standNow z h4 v0 v1).bind fun x5 =>
      (f_X12_canDraw z h4 v0 x5).bind fun x6 =>
      if x6 = 0 then
        some ((0 : Int32), h4)
      else
        (f_X12_drawnMean n z h4 v0 x5).bind fun (x8, h9) =>
        (f_X12_meanFrom n z h9 v0 x5).bind fun (x10, h11) =>
        if (lg_cmp x8 x10) = 0 then
          some ((1 : Int32), h11)
        else
          some ((0 : Int32), h11)
  else none
theorem k_X12_drawing {n : Nat} {z : Sh} {h : Hp} {v0 : Nat} {v1 : Int32} {w : Int32 × Hp} (hf : f_X12_drawing n z h v0 v1 = some w) : z.K v0 = 12 := by
  unfold f_X12_drawing at hf
  exact (if_some hf).1
set_option maxHeartbeats 4000000 in
theorem c_X12_drawing {l : Launch} {s0 : State} {E : Ev} (G : Gl s0 E) {n : Nat} {z : Sh} {h : Hp} {v0 : Nat} {v1 : Int32} {r : Int32} {h' : Hp} (hf : f_X12_drawing n z h v0 v1 = some (r, h')) : Ct l s0 E yX12_drawing cX12_drawing 3 (some .int) 66 3720 [.ref v0, .int v1] z h h' (some (.int r)) := by
  refine Ct.of G (by decide) (Nat.le_of_ble_eq_true rfl) ?_
  intro p e s m below meth c ls B hw hz hc0 hr hlk hl
  have B : Bd p s0 s E m c cX12_drawing 3 RX12 := B
  have hx := B.1
  have hb := B.2.1
  have hl : lv_has ls 3 [(0, .ref v0), (1, .int v1)] := hl
  unfold f_X12_drawing at hf
  obtain ⟨_, hf⟩ := if_some hf
  refine lv_aload_n hx hb dX12_drawing_0 rfl (lv_at hl 0 rfl) ?_
  refine lv_iconst (v := 0) hx hb dX12_drawing_1 (by decide) ?_
  obtain ⟨h1, e, hf⟩ := ob hf
  refine q_putI e B hw fd_12_0.1 fd_12_0.2.1 fd_12_0.2.2.1 fd_12_0.2.2.2.1 fd_12_0.2.2.2.2 rfl rfl (tyX12_ok 0 (by decide)) tyX12 tyX12_ok nmX12 tw_6_43 dX12_drawing_2 (fun H locs hw => ?_)
  refine lv_aload_n hx hb dX12_drawing_5 rfl (lv_at hl 0 rfl) ?_
  refine lv_iload_n hx hb dX12_drawing_6 rfl (lv_at hl 1 rfl) ?_
  refine lv_i2l (v := (Int32.toInt64 v1)) hx hb dX12_drawing_7 rfl ?_
  obtain ⟨x2, e, hf⟩ := ob hf
  refine q_callV (As := [.long (Int32.toInt64 v1)]) (rest := []) (st1 := [.int x2]) (c_X12_isPerson G e) B hw hz hc0 (k_X12_isPerson e) (by decide) (ci := 12) rfl rfl my_X12_isPerson mv_X12_isPerson tw_7_35 ⟨Nat.le_of_ble_eq_true rfl, Nat.le_of_ble_eq_true rfl⟩ ⟨Nat.zero_le _, Nat.zero_le _⟩ rfl hl.1 rfl rfl (Nat.le_of_ble_eq_true rfl) dX12_drawing_8 (fun H locs hw => ?_)
  refine lv_if_ne (tgt := 17) hx hb dX12_drawing_11 (by decide) (fun c3 => ?_) (fun c3 => ?_)
  · have hf := (if_neg c3).symm.trans hf
    refine lv_aload_n hx hb dX12_drawing_17 rfl (lv_at hl 0 rfl) ?_
    refine lv_iload_n hx hb dX12_drawing_18 rfl (lv_at hl 1 rfl) ?_
    obtain ⟨h4, e, hf⟩ := ob hf
    refine q_callV (As := [.int v1]) (rest := []) (st1 := []) (c_X12_begins G e) B hw hz hc0 (k_X12_begins e) (by decide) (ci := 12) rfl rfl my_X12_begins mv_X12_begins tw_7_233 ⟨Nat.le_of_ble_eq_true rfl, Nat.le_of_ble_eq_true rfl⟩ ⟨Nat.zero_le _, Nat.zero_le _⟩ rfl hl.1 rfl rfl (Nat.le_of_ble_eq_true rfl) dX12_drawing_19 (fun H locs hw => ?_)
    refine lv_aload_n hx hb dX12_drawing_22 rfl (lv_at hl 0 rfl) ?_
    refine lv_iload_n hx hb dX12_drawing_23 rfl (lv_at hl 1 rfl) ?_
    obtain ⟨x5, e, hf⟩ := ob hf
    refine q_callV (As := [.int v1]) (rest := []) (st1 := [.int x5]) (c_X12_standNow G e) B hw hz hc0 (k_X12_standNow e) (by decide) (ci := 12) rfl rfl my_X12_standNow mv_X12_standNow tw_7_48 ⟨Nat.le_of_ble_eq_true rfl, Nat.le_of_ble_eq_true rfl⟩ ⟨Nat.zero_le _, Nat.zero_le _⟩ rfl hl.1 rfl rfl (Nat.le_of_ble_eq_true rfl) dX12_drawing_24 (fun H locs hw => ?_)
    refine lv_istore_n (lv' := [(2, .int x5), (0, .ref v0), (1, .int v1)]) hx hb dX12_drawing_27 rfl hl (by decide) rfl (fun ls hl => ?_)
    refine lv_aload_n hx hb dX12_drawing_28 rfl (lv_at hl 1 rfl) ?_
    refine lv_iload_n hx hb dX12_drawing_29 rfl (lv_at hl 0 rfl) ?_
    obtain ⟨x6, e, hf⟩ := ob hf
    refine q_callV (As := [.int x5]) (rest := []) (st1 := [.int x6]) (c_X12_canDraw G e) B hw hz hc0 (k_X12_canDraw e) (by decide) (ci := 12) rfl rfl my_X12_canDraw mv_X12_canDraw tw_8_1 ⟨Nat.le_of_ble_eq_true rfl, Nat.le_of_ble_eq_true rfl⟩ ⟨Nat.zero_le _, Nat.zero_le _⟩ rfl hl.1 rfl rfl (Nat.le_of_ble_eq_true rfl) dX12_drawing_30 (fun H locs hw => ?_)
    refine lv_if_eq (tgt := 54) hx hb dX12_drawing_33 (by decide) (fun c7 => ?_) (fun c7 => ?_)
    · have hf := (if_pos c7).symm.trans hf
      refine lv_iconst (v := 0) hx hb dX12_drawing_54 (by decide) ?_
      obtain ⟨rfl, rfl⟩ := so2 hf
      exact q_iret B hw hz hc0 hr hlk dX12_drawing_55
    · have hf := (if_neg c7).symm.trans hf
      refine lv_aload_n hx hb dX12_drawing_36 rfl (lv_at hl 1 rfl) ?_
      refine lv_iload_n hx hb dX12_drawing_37 rfl (lv_at hl 0 rfl) ?_
      obtain ⟨⟨x8, h9⟩, e, hf⟩ := ob hf
      refine q_callV (As := [.int x5]) (rest := []) (st1 := [.long x8]) (c_X12_drawnMean G e) B hw hz hc0 (k_X12_drawnMean e) (by decide) (ci := 12) rfl rfl my_X12_drawnMean mv_X12_drawnMean tw_8_55 ⟨Nat.le_of_ble_eq_true rfl, Nat.le_of_ble_eq_true rfl⟩ ⟨Nat.zero_le _, Nat.zero_le _⟩ rfl hl.1 rfl rfl (Nat.le_of_ble_eq_true rfl) dX12_drawing_38 (fun H locs hw => ?_)
      refine lv_aload_n hx hb dX12_drawing_41 rfl (lv_at hl 1 rfl) ?_
      refine lv_iload_n hx hb dX12_drawing_42 rfl (lv_at hl 0 rfl) ?_
      obtain ⟨⟨x10, h11⟩, e, hf⟩ := ob hf
      refine q_callV (As := [.int x5]) (rest := [.long x8]) (st1 := [.long x10, .long x8]) (c_X12_meanFrom G e) B hw hz hc0 (k_X12_meanFrom e) (by decide) (ci := 12) rfl rfl my_X12_meanFrom mv_X12_meanFrom tw_8_51 ⟨Nat.le_of_ble_eq_true rfl, Nat.le_of_ble_eq_true rfl⟩ ⟨Nat.zero_le _, Nat.zero_le _⟩ rfl hl.1 rfl rfl (Nat.le_of_ble_eq_true rfl) dX12_drawing_43 (fun H locs hw => ?_)
      refine W.lcmp hx hb dX12_drawing_46 ?_
      refine lv_if_ne (tgt := 54) hx hb dX12_drawing_47 (by decide) (fun c12 => ?_) (fun c12 => ?_)
      · have hf := (if_neg c12).symm.trans hf
        refine lv_iconst (v := 0) hx hb dX12_drawing_54 (by decide) ?_
        obtain ⟨rfl, rfl⟩ := so2 hf
        exact q_iret B hw hz hc0 hr hlk dX12_drawing_55
      · have hf := (if_pos c12).symm.trans hf
        refine lv_iconst (v := 1) hx hb dX12_drawing_50 (by decide) ?_
        refine lv_goto (tgt := 55) hx hb dX12_drawing_51 (by decide) ?_
        obtain ⟨rfl, rfl⟩ := so2 hf
        exact q_iret B hw hz hc0 hr hlk dX12_drawing_55
  · have hf := (if_pos c3).symm.trans hf
    refine lv_ldc hx hb B.2.2.2.1 (B.w tw_7_39 rfl) dX12_drawing_14 ?_
    obtain ⟨rfl, rfl⟩ := so2 hf
    exact q_iret B hw hz hc0 hr hlk dX12_drawing_16
/-! SecondLifeModel.yearsLeft(I)I -/
def f_X12_yearsLeft (z : Sh) (h : Hp) (v0 : Nat) (v1 : Int32) : Option (Int32) :=
  if z.K v0 = 12 then
    (gR z h 12 v0 1).bind fun a1 =>
    (ldI z h a1 1).bind fun x2 =>
    (f_X12_yearOf z h v1).bind fun x3 =>
    (f_X12_canDraw z h v0 v1).bind fun x4 =>
    if x4 = 0 then
      some ((x2 - x3) + 0)
    else
      (gR z h 12 v0 1).bind fun a6 =>
      (ldI z h a6 1).bind fun x7 =>
      some ((x2 - x3) + x7)
  else none
theorem k_X12_yearsLeft {z : Sh} {h : Hp} {v0 : Nat} {v1 : Int32} {w : Int32} (hf : f_X12_yearsLeft z h v0 v1 = some w) : z.K v0 = 12 := by
  unfold f_X12_yearsLeft at hf
  exact (if_some hf).1
set_option maxHeartbeats 4000000 in
theorem c_X12_yearsLeft {l : Launch} {s0 : State} {E : Ev} (G : Gl s0 E) {z : Sh} {h : Hp} {v0 : Nat} {v1 : Int32} {r : Int32} (hf : f_X12_yearsLeft z h v0 v1 = some r) : Ct l s0 E yX12_yearsLeft cX12_yearsLeft 2 (some .int) 2 41 [.ref v0, .int v1] z h h (some (.int r)) := by
  refine Ct.of G (by decide) (Nat.le_of_ble_eq_true rfl) ?_
  intro p e s m below meth c ls B hw hz hc0 hr hlk hl
  have B : Bd p s0 s E m c cX12_yearsLeft 2 RX12 := B
  have hx := B.1
  have hb := B.2.1
  have hl : lv_has ls 2 [(0, .ref v0), (1, .int v1)] := hl
  unfold f_X12_yearsLeft at hf
  obtain ⟨_, hf⟩ := if_some hf
  refine lv_aload_n hx hb dX12_yearsLeft_0 rfl (lv_at hl 0 rfl) ?_
  obtain ⟨a1, e, hf⟩ := ob hf
  refine q_getR e B hw fd_12_1.1 fd_12_1.2.1 fd_12_1.2.2.1 fd_12_1.2.2.2.1 fd_12_1.2.2.2.2 rfl tw_6_44 dX12_yearsLeft_1 ?_
  refine lv_iconst (v := 1) hx hb dX12_yearsLeft_4 (by decide) ?_
  obtain ⟨x2, e, hf⟩ := ob hf
  refine q_ldI e B hw dX12_yearsLeft_5 ?_
  refine lv_iload_n hx hb dX12_yearsLeft_6 rfl (lv_at hl 1 rfl) ?_
  obtain ⟨x3, e, hf⟩ := ob hf
  refine q_callS (As := [.int v1]) (rest := [.int x2]) (st1 := [.int x3, .int x2]) (c_X12_yearOf G e) B hw hz hc0 my_X12_yearOf mv_X12_yearOf tw_7_59 ⟨Nat.le_of_ble_eq_true rfl, Nat.le_of_ble_eq_true rfl⟩ ⟨Nat.zero_le _, Nat.zero_le _⟩ rfl hl.1 rfl rfl (Nat.le_of_ble_eq_true rfl) dX12_yearsLeft_7 (fun H locs hw => ?_)
  refine lv_isub hx hb dX12_yearsLeft_10 ?_
  refine lv_aload_n hx hb dX12_yearsLeft_11 rfl (lv_at hl 0 rfl) ?_
  refine lv_iload_n hx hb dX12_yearsLeft_12 rfl (lv_at hl 1 rfl) ?_
  obtain ⟨x4, e, hf⟩ := ob hf
  refine q_callV (As := [.int v1]) (rest := [.int (x2 - x3)]) (st1 := [.int x4, .int (x2 - x3)]) (c_X12_canDraw G e) B hw hz hc0 (k_X12_canDraw e) (by decide) (ci := 12) rfl rfl my_X12_canDraw mv_X12_canDraw tw_8_1 ⟨Nat.le_of_ble_eq_true rfl, Nat.le_of_ble_eq_true rfl⟩ ⟨Nat.zero_le _, Nat.zero_le _⟩ rfl hl.1 rfl rfl (Nat.le_of_ble_eq_true rfl) dX12_yearsLeft_13 (fun H locs hw => ?_)
  refine lv_if_eq (tgt := 28) hx hb dX12_yearsLeft_16 (by decide) (fun c5 => ?_) (fun c5 => ?_)
  · have hf := (if_pos c5).symm.trans hf
    refine lv_iconst (v := 0) hx hb dX12_yearsLeft_28 (by decide) ?_
    refine lv_iadd hx hb dX12_yearsLeft_29 ?_
    obtain rfl := so hf
    exact q_iret B hw hz hc0 hr hlk dX12_yearsLeft_30
  · have hf := (if_neg c5).symm.trans hf
    refine lv_aload_n hx hb dX12_yearsLeft_19 rfl (lv_at hl 0 rfl) ?_
    obtain ⟨a6, e, hf⟩ := ob hf
    refine q_getR e B hw fd_12_1.1 fd_12_1.2.1 fd_12_1.2.2.1 fd_12_1.2.2.2.1 fd_12_1.2.2.2.2 rfl tw_6_44 dX12_yearsLeft_20 ?_
    refine lv_iconst (v := 1) hx hb dX12_yearsLeft_23 (by decide) ?_
    obtain ⟨x7, e, hf⟩ := ob hf
    refine q_ldI e B hw dX12_yearsLeft_24 ?_
    refine lv_goto (tgt := 29) hx hb dX12_yearsLeft_25 (by decide) ?_
    refine lv_iadd hx hb dX12_yearsLeft_29 ?_
    obtain rfl := so hf
    exact q_iret B hw hz hc0 hr hlk dX12_yearsLeft_30
/-! SecondLifeModel.drawnHope(II)J -/
def F_X12_drawnHope (n : Nat) (g_X12_drawnHope : Sh → Hp → Nat → Int32 → Int32 → Option (Int64 × Hp)) (g_X12_livedHope : Sh → Hp → Nat → Int32 → Int32 → Int32 → Option (Int64 × Hp)) (g_X12_hopeFrom : Sh → Hp → Nat → Int32 → Int32 → Option (Int64 × Hp)) (z : Sh) (h : Hp) (v0 : Nat) (v1 : Int32) (v2 : Int32) : Option (Int64 × Hp) :=
  if z.K v0 = 12 then
    (f_X12_canDraw z h v0 v1).bind fun x1 =>
    if x1 = 0 then
      some ((0 : Int64), h)
    else
      (gI z h 12 v0 25).bind fun x3 =>
      (f_X12_drawnTo n z h v0 x3 v1).bind fun (x4, h5) =>
      (ckK z v0 12).bind fun _ =>
      (g_X12_hopeFrom z h5 v0 x4 v2).bind fun (x6, h7) =>
      some (x6, h7)
  else none
def F_X12_livedHope (n : Nat) (g_X12_drawnHope : Sh → Hp → Nat → Int32 → Int32 → Option (Int64 × Hp)) (g_X12_livedHope : Sh → Hp → Nat → Int32 → Int32 → Int32 → Option (Int64 × Hp)) (g_X12_hopeFrom : Sh → Hp → Nat → Int32 → Int32 → Option (Int64 × Hp)) (z : Sh) (h : Hp) (v0 : Nat) (v1 : Int32) (v2 : Int32) (v3 : Int32) : Option (Int64 × Hp) :=
  if z.K v0 = 12 then
    (f_X12_livedTo z h v1 v2).bind fun x1 =>
    (gI z h 12 v0 25).bind fun x2 =>
    (f_X12_worthOf n z h v0 x2 v1 v2).bind fun (x3, h4) =>
    (ckK z v0 12).bind fun _ =>
    (g_X12_hopeFrom z h4 v0 x1 (v3 - x3)).bind fun (x5, h6) =>
    (dvJ x5 10).bind fun x7 =>
    (gR z h6 12 v0 1).bind fun a8 =>
    (ldI z h6 a8 4).bind fun x9 =>
    (ckK z v0 12).bind fun _ =>
    (g_X12_drawnHope z h6 v0 v1 v3).bind fun (x10, h11) =>
    (dvJ x10 10).bind fun x12 =>
    (gR z h11 12 v0 1).bind fun a13 =>
    (ldI z h11 a13 4).bind fun x14 =>
    some (((x7 * (Int32.toInt64 (10 - x9))) + (x12 * (Int32.toInt64 x14))), h11)
  else none
def f_X12_hopeFrom_110 (n : Nat) (g_X12_drawnHope : Sh → Hp → Nat → Int32 → Int32 → Option (Int64 × Hp)) (g_X12_livedHope : Sh → Hp → Nat → Int32 → Int32 → Int32 → Option (Int64 × Hp)) (g_X12_hopeFrom : Sh → Hp → Nat → Int32 → Int32 → Option (Int64 × Hp)) (z : Sh) (h : Hp) (v0 : Nat) (v3 : Int32) (v4 : Int64) : Option (Int64 × Hp) :=
  (gR z h 12 v0 30).bind fun a1 =>
  (stJ z h a1 v3 v4).bind fun h2 =>
  some (v4, h2)
def f_X12_hopeFrom_102 (n : Nat) (g_X12_drawnHope : Sh → Hp → Nat → Int32 → Int32 → Option (Int64 × Hp)) (g_X12_livedHope : Sh → Hp → Nat → Int32 → Int32 → Int32 → Option (Int64 × Hp)) (g_X12_hopeFrom : Sh → Hp → Nat → Int32 → Int32 → Option (Int64 × Hp)) (z : Sh) (k58 : Hp → Nat → Int32 → Int32 → Int32 → Int64 → Int32 → Option (Int64 × Hp)) (h : Hp) (v0 : Nat) (v1 : Int32) (v2 : Int32) (v3 : Int32) (v6 : Int32) (u0 : Int64) : Option (Int64 × Hp) :=
  (some (v6 + 1)).bind fun x1 =>
  k58 h v0 v1 v2 v3 u0 x1
def f_X12_hopeFrom_58 (n : Nat) (g_X12_drawnHope : Sh → Hp → Nat → Int32 → Int32 → Option (Int64 × Hp)) (g_X12_livedHope : Sh → Hp → Nat → Int32 → Int32 → Int32 → Option (Int64 × Hp)) (g_X12_hopeFrom : Sh → Hp → Nat → Int32 → Int32 → Option (Int64 × Hp)) (z : Sh) : Nat → Hp → Nat → Int32 → Int32 → Int32 → Int64 → Int32 → Option (Int64 × Hp)
  | 0, _, _, _, _, _, _, _ => none
  | i + 1, h, v0, v1, v2, v3, v4, v6 =>
    (gR z h 12 v0 1).bind fun a1 =>
    (ldI z h a1 2).bind fun x2 =>
    if x2 ≤ v6 then
      f_X12_hopeFrom_110 n g_X12_drawnHope g_X12_livedHope g_X12_hopeFrom z h v0 v3 v4
    else
      (f_X12_isOver z h v0 v1).bind fun x4 =>
      if x4 = 0 then
        (ckK z v0 12).bind fun _ =>
        (g_X12_livedHope z h v0 v1 v6 v2).bind fun (x6, h7) =>
        if (lg_cmp x6 v4) ≤ 0 then
          f_X12_hopeFrom_102 n g_X12_drawnHope g_X12_livedHope g_X12_hopeFrom z (f_X12_hopeFrom_58 n g_X12_drawnHope g_X12_livedHope g_X12_hopeFrom z i) h7 v0 v1 v2 v3 v6 v4
        else
          f_X12_hopeFrom_102 n g_X12_drawnHope g_X12_livedHope g_X12_hopeFrom z (f_X12_hopeFrom_58 n g_X12_drawnHope g_X12_livedHope g_X12_hopeFrom z i) h7 v0 v1 v2 v3 v6 x6
      else
        f_X12_hopeFrom_110 n g_X12_drawnHope g_X12_livedHope g_X12_hopeFrom z h v0 v3 v4
def F_X12_hopeFrom (n : Nat) (g_X12_drawnHope : Sh → Hp → Nat → Int32 → Int32 → Option (Int64 × Hp)) (g_X12_livedHope : Sh → Hp → Nat → Int32 → Int32 → Int32 → Option (Int64 × Hp)) (g_X12_hopeFrom : Sh → Hp → Nat → Int32 → Int32 → Option (Int64 × Hp)) (z : Sh) (h : Hp) (v0 : Nat) (v1 : Int32) (v2 : Int32) : Option (Int64 × Hp) :=
  if z.K v0 = 12 then
    if 0 < v2 then
      (f_X12_yearsLeft z h v0 v1).bind fun x2 =>
      if v2 ≤ (9 * x2) then
        (some ((109 * v1) + v2)).bind fun x4 =>
        (gR z h 12 v0 30).bind fun a5 =>
        (ldJ z h a5 x4).bind fun x6 =>
        if (lg_cmp x6 0) < 0 then
          (ckK z v0 12).bind fun _ =>
          (g_X12_drawnHope z h v0 v1 v2).bind fun (x8, h9) =>
          f_X12_hopeFrom_58 n g_X12_drawnHope g_X12_livedHope g_X12_hopeFrom z n h9 v0 v1 v2 x4 x8 0
        else
          (gR z h 12 v0 30).bind fun a10 =>
          (ldJ z h a10 x4).bind fun x11 =>
          some (x11, h)
      else
        some ((0 : Int64), h)
    else
      some ((1000000000000 : Int64), h)
  else none
def rc_X12_drawnHope (n : Nat) : Nat → (Sh → Hp → Nat → Int32 → Int32 → Option (Int64 × Hp)) × (Sh → Hp → Nat → Int32 → Int32 → Int32 → Option (Int64 × Hp)) × (Sh → Hp → Nat → Int32 → Int32 → Option (Int64 × Hp))
  | 0 => (fun _ _ _ _ _ => none, fun _ _ _ _ _ _ => none, fun _ _ _ _ _ => none)
  | i + 1 => (F_X12_drawnHope n (rc_X12_drawnHope n i).1 (rc_X12_drawnHope n i).2.1 (rc_X12_drawnHope n i).2.2, F_X12_livedHope n (rc_X12_drawnHope n i).1 (rc_X12_drawnHope n i).2.1 (rc_X12_drawnHope n i).2.2, F_X12_hopeFrom n (rc_X12_drawnHope n i).1 (rc_X12_drawnHope n i).2.1 (rc_X12_drawnHope n i).2.2)
def f_X12_drawnHope (n : Nat) (z : Sh) (h : Hp) (v0 : Nat) (v1 : Int32) (v2 : Int32) : Option (Int64 × Hp) := (rc_X12_drawnHope n 60).1 z h v0 v1 v2
theorem k_X12_drawnHope {n : Nat} {z : Sh} {h : Hp} {v0 : Nat} {v1 : Int32} {v2 : Int32} {w : Int64 × Hp} (hf : f_X12_drawnHope n z h v0 v1 v2 = some w) : z.K v0 = 12 := by
  have hf : F_X12_drawnHope n (rc_X12_drawnHope n 59).1 (rc_X12_drawnHope n 59).2.1 (rc_X12_drawnHope n 59).2.2 z h v0 v1 v2 = some w := hf
  unfold F_X12_drawnHope at hf
  exact (if_some hf).1
def f_X12_livedHope (n : Nat) (z : Sh) (h : Hp) (v0 : Nat) (v1 : Int32) (v2 : Int32) (v3 : Int32) : Option (Int64 × Hp) := (rc_X12_drawnHope n 60).2.1 z h v0 v1 v2 v3
theorem k_X12_livedHope {n : Nat} {z : Sh} {h : Hp} {v0 : Nat} {v1 : Int32} {v2 : Int32} {v3 : Int32} {w : Int64 × Hp} (hf : f_X12_livedHope n z h v0 v1 v2 v3 = some w) : z.K v0 = 12 := by
  have hf : F_X12_livedHope n (rc_X12_drawnHope n 59).1 (rc_X12_drawnHope n 59).2.1 (rc_X12_drawnHope n 59).2.2 z h v0 v1 v2 v3 = some w := hf
  unfold F_X12_livedHope at hf
  exact (if_some hf).1
def f_X12_hopeFrom (n : Nat) (z : Sh) (h : Hp) (v0 : Nat) (v1 : Int32) (v2 : Int32) : Option (Int64 × Hp) := (rc_X12_drawnHope n 60).2.2 z h v0 v1 v2
theorem k_X12_hopeFrom {n : Nat} {z : Sh} {h : Hp} {v0 : Nat} {v1 : Int32} {v2 : Int32} {w : Int64 × Hp} (hf : f_X12_hopeFrom n z h v0 v1 v2 = some w) : z.K v0 = 12 := by
  have hf : F_X12_hopeFrom n (rc_X12_drawnHope n 59).1 (rc_X12_drawnHope n 59).2.1 (rc_X12_drawnHope n 59).2.2 z h v0 v1 v2 = some w := hf
  unfold F_X12_hopeFrom at hf
  exact (if_some hf).1
set_option maxHeartbeats 4000000 in
theorem co_X12_drawnHope {l : Launch} {s0 : State} {E : Ev} (G : Gl s0 E) {n : Nat} {d : Nat} {g_X12_drawnHope : Sh → Hp → Nat → Int32 → Int32 → Option (Int64 × Hp)} {g_X12_livedHope : Sh → Hp → Nat → Int32 → Int32 → Int32 → Option (Int64 × Hp)} {g_X12_hopeFrom : Sh → Hp → Nat → Int32 → Int32 → Option (Int64 × Hp)} (H_X12_drawnHope : ∀ {z : Sh} {h : Hp} {v0 : Nat} {v1 : Int32} {v2 : Int32} {r : Int64} {h' : Hp}, g_X12_drawnHope z h v0 v1 v2 = some (r, h') → Ct l s0 E yX12_drawnHope cX12_drawnHope 3 (some .long) (5 + d) (94 + 60 * d) [.ref v0, .int v1, .int v2] z h h' (some (.long r))) (H_X12_livedHope : ∀ {z : Sh} {h : Hp} {v0 : Nat} {v1 : Int32} {v2 : Int32} {v3 : Int32} {r : Int64} {h' : Hp}, g_X12_livedHope z h v0 v1 v2 v3 = some (r, h') → Ct l s0 E yX12_livedHope cX12_livedHope 4 (some .long) (5 + d) (94 + 60 * d) [.ref v0, .int v1, .int v2, .int v3] z h h' (some (.long r))) (H_X12_hopeFrom : ∀ {z : Sh} {h : Hp} {v0 : Nat} {v1 : Int32} {v2 : Int32} {r : Int64} {h' : Hp}, g_X12_hopeFrom z h v0 v1 v2 = some (r, h') → Ct l s0 E yX12_hopeFrom cX12_hopeFrom 9 (some .long) (5 + d) (94 + 60 * d) [.ref v0, .int v1, .int v2] z h h' (some (.long r))) {z : Sh} {h : Hp} {v0 : Nat} {v1 : Int32} {v2 : Int32} {r : Int64} {h' : Hp} (hf : F_X12_drawnHope n g_X12_drawnHope g_X12_livedHope g_X12_hopeFrom z h v0 v1 v2 = some (r, h')) : Ct l s0 E yX12_drawnHope cX12_drawnHope 3 (some .long) (5 + (d + 1)) (94 + 60 * (d + 1)) [.ref v0, .int v1, .int v2] z h h' (some (.long r)) := by
  refine Ct.of G (by decide) (Nat.le_of_ble_eq_true rfl) ?_
  intro p e s m below meth c ls B hw hz hc0 hr hlk hl
  have B : Bd p s0 s E m c cX12_drawnHope 3 RX12 := B
  have hx := B.1
  have hb := B.2.1
  have hl : lv_has ls 3 [(0, .ref v0), (1, .int v1), (2, .int v2)] := hl
  unfold F_X12_drawnHope at hf
  obtain ⟨_, hf⟩ := if_some hf
  refine lv_aload_n hx hb dX12_drawnHope_0 rfl (lv_at hl 0 rfl) ?_
  refine lv_iload_n hx hb dX12_drawnHope_1 rfl (lv_at hl 1 rfl) ?_
  obtain ⟨x1, e, hf⟩ := ob hf
  refine q_callV (As := [.int v1]) (rest := []) (st1 := [.int x1]) (c_X12_canDraw G e) B hw hz hc0 (k_X12_canDraw e) (by decide) (ci := 12) rfl rfl my_X12_canDraw mv_X12_canDraw tw_8_1 ⟨by simp only [rmO, rmA]; omega, by simp only [rmO, rmA]; omega⟩ ⟨Nat.zero_le _, Nat.zero_le _⟩ rfl hl.1 rfl rfl (Nat.le_of_ble_eq_true rfl) dX12_drawnHope_2 (fun H locs hw => ?_)
  refine lv_if_eq (tgt := 25) hx hb dX12_drawnHope_5 (by decide) (fun c2 => ?_) (fun c2 => ?_)
  · have hf := (if_pos c2).symm.trans hf
    refine lv_lconst (v := 0) hx hb dX12_drawnHope_25 (by decide) ?_
    obtain ⟨rfl, rfl⟩ := so2 hf
    exact q_lret B hw hz hc0 hr hlk dX12_drawnHope_26
  · have hf := (if_neg c2).symm.trans hf
    refine lv_aload_n hx hb dX12_drawnHope_8 rfl (lv_at hl 0 rfl) ?_
    refine lv_aload_n hx hb dX12_drawnHope_9 rfl (lv_at hl 0 rfl) ?_
    refine lv_aload_n hx hb dX12_drawnHope_10 rfl (lv_at hl 0 rfl) ?_
    obtain ⟨x3, e, hf⟩ := ob hf
    refine q_getI e B hw fd_12_25.1 fd_12_25.2.1 fd_12_25.2.2.1 fd_12_25.2.2.2.1 fd_12_25.2.2.2.2 rfl tw_6_68 dX12_drawnHope_11 ?_
    refine lv_iload_n hx hb dX12_drawnHope_14 rfl (lv_at hl 1 rfl) ?_
    obtain ⟨⟨x4, h5⟩, e, hf⟩ := ob hf
    refine q_callV (As := [.int x3, .int v1]) (rest := [.ref v0]) (st1 := [.int x4, .ref v0]) (c_X12_drawnTo G e) B hw hz hc0 (k_X12_drawnTo e) (by decide) (ci := 12) rfl rfl my_X12_drawnTo mv_X12_drawnTo tw_7_135 ⟨by simp only [rmO, rmA]; omega, by simp only [rmO, rmA]; omega⟩ ⟨Nat.zero_le _, Nat.zero_le _⟩ rfl hl.1 rfl rfl (Nat.le_of_ble_eq_true rfl) dX12_drawnHope_15 (fun H locs hw => ?_)
    refine lv_iload_n hx hb dX12_drawnHope_18 rfl (lv_at hl 2 rfl) ?_
    obtain ⟨_, eK, hf⟩ := ob hf
    obtain ⟨⟨x6, h7⟩, e, hf⟩ := ob hf
    refine q_callV (As := [.int x4, .int v2]) (rest := []) (st1 := [.long x6]) (H_X12_hopeFrom e) B hw hz hc0 ((if_some eK).1) (by decide) (ci := 12) rfl rfl my_X12_hopeFrom mv_X12_hopeFrom tw_8_89 ⟨by simp only [rmO, rmA]; omega, by simp only [rmO, rmA]; omega⟩ ⟨Nat.zero_le _, Nat.zero_le _⟩ rfl hl.1 rfl rfl (Nat.le_of_ble_eq_true rfl) dX12_drawnHope_19 (fun H locs hw => ?_)
    refine lv_goto (tgt := 26) hx hb dX12_drawnHope_22 (by decide) ?_
    obtain ⟨rfl, rfl⟩ := so2 hf
    exact q_lret B hw hz hc0 hr hlk dX12_drawnHope_26
set_option maxHeartbeats 4000000 in
theorem co_X12_livedHope {l : Launch} {s0 : State} {E : Ev} (G : Gl s0 E) {n : Nat} {d : Nat} {g_X12_drawnHope : Sh → Hp → Nat → Int32 → Int32 → Option (Int64 × Hp)} {g_X12_livedHope : Sh → Hp → Nat → Int32 → Int32 → Int32 → Option (Int64 × Hp)} {g_X12_hopeFrom : Sh → Hp → Nat → Int32 → Int32 → Option (Int64 × Hp)} (H_X12_drawnHope : ∀ {z : Sh} {h : Hp} {v0 : Nat} {v1 : Int32} {v2 : Int32} {r : Int64} {h' : Hp}, g_X12_drawnHope z h v0 v1 v2 = some (r, h') → Ct l s0 E yX12_drawnHope cX12_drawnHope 3 (some .long) (5 + d) (94 + 60 * d) [.ref v0, .int v1, .int v2] z h h' (some (.long r))) (H_X12_livedHope : ∀ {z : Sh} {h : Hp} {v0 : Nat} {v1 : Int32} {v2 : Int32} {v3 : Int32} {r : Int64} {h' : Hp}, g_X12_livedHope z h v0 v1 v2 v3 = some (r, h') → Ct l s0 E yX12_livedHope cX12_livedHope 4 (some .long) (5 + d) (94 + 60 * d) [.ref v0, .int v1, .int v2, .int v3] z h h' (some (.long r))) (H_X12_hopeFrom : ∀ {z : Sh} {h : Hp} {v0 : Nat} {v1 : Int32} {v2 : Int32} {r : Int64} {h' : Hp}, g_X12_hopeFrom z h v0 v1 v2 = some (r, h') → Ct l s0 E yX12_hopeFrom cX12_hopeFrom 9 (some .long) (5 + d) (94 + 60 * d) [.ref v0, .int v1, .int v2] z h h' (some (.long r))) {z : Sh} {h : Hp} {v0 : Nat} {v1 : Int32} {v2 : Int32} {v3 : Int32} {r : Int64} {h' : Hp} (hf : F_X12_livedHope n g_X12_drawnHope g_X12_livedHope g_X12_hopeFrom z h v0 v1 v2 v3 = some (r, h')) : Ct l s0 E yX12_livedHope cX12_livedHope 4 (some .long) (5 + (d + 1)) (94 + 60 * (d + 1)) [.ref v0, .int v1, .int v2, .int v3] z h h' (some (.long r)) := by
  refine Ct.of G (by decide) (Nat.le_of_ble_eq_true rfl) ?_
  intro p e s m below meth c ls B hw hz hc0 hr hlk hl
  have B : Bd p s0 s E m c cX12_livedHope 4 RX12 := B
  have hx := B.1
  have hb := B.2.1
  have hl : lv_has ls 4 [(0, .ref v0), (1, .int v1), (2, .int v2), (3, .int v3)] := hl
  unfold F_X12_livedHope at hf
  obtain ⟨_, hf⟩ := if_some hf
  refine lv_aload_n hx hb dX12_livedHope_0 rfl (lv_at hl 0 rfl) ?_
  refine lv_iload_n hx hb dX12_livedHope_1 rfl (lv_at hl 1 rfl) ?_
  refine lv_iload_n hx hb dX12_livedHope_2 rfl (lv_at hl 2 rfl) ?_
  obtain ⟨x1, e, hf⟩ := ob hf
  refine q_callS (As := [.int v1, .int v2]) (rest := [.ref v0]) (st1 := [.int x1, .ref v0]) (c_X12_livedTo G e) B hw hz hc0 my_X12_livedTo mv_X12_livedTo tw_7_112 ⟨by simp only [rmO, rmA]; omega, by simp only [rmO, rmA]; omega⟩ ⟨Nat.zero_le _, Nat.zero_le _⟩ rfl hl.1 rfl rfl (Nat.le_of_ble_eq_true rfl) dX12_livedHope_3 (fun H locs hw => ?_)
  refine lv_iload_n hx hb dX12_livedHope_6 rfl (lv_at hl 3 rfl) ?_
  refine lv_aload_n hx hb dX12_livedHope_7 rfl (lv_at hl 0 rfl) ?_
  refine lv_aload_n hx hb dX12_livedHope_8 rfl (lv_at hl 0 rfl) ?_
  obtain ⟨x2, e, hf⟩ := ob hf
  refine q_getI e B hw fd_12_25.1 fd_12_25.2.1 fd_12_25.2.2.1 fd_12_25.2.2.2.1 fd_12_25.2.2.2.2 rfl tw_6_68 dX12_livedHope_9 ?_
  refine lv_iload_n hx hb dX12_livedHope_12 rfl (lv_at hl 1 rfl) ?_
  refine lv_iload_n hx hb dX12_livedHope_13 rfl (lv_at hl 2 rfl) ?_
  obtain ⟨⟨x3, h4⟩, e, hf⟩ := ob hf
  refine q_callV (As := [.int x2, .int v1, .int v2]) (rest := [.int v3, .int x1, .ref v0]) (st1 := [.int x3, .int v3, .int x1, .ref v0]) (c_X12_worthOf G e) B hw hz hc0 (k_X12_worthOf e) (by decide) (ci := 12) rfl rfl my_X12_worthOf mv_X12_worthOf tw_7_62 ⟨by simp only [rmO, rmA]; omega, by simp only [rmO, rmA]; omega⟩ ⟨Nat.zero_le _, Nat.zero_le _⟩ rfl hl.1 rfl rfl (Nat.le_of_ble_eq_true rfl) dX12_livedHope_14 (fun H locs hw => ?_)
  refine lv_isub hx hb dX12_livedHope_17 ?_
  obtain ⟨_, eK, hf⟩ := ob hf
  obtain ⟨⟨x5, h6⟩, e, hf⟩ := ob hf
  refine q_callV (As := [.int x1, .int (v3 - x3)]) (rest := []) (st1 := [.long x5]) (H_X12_hopeFrom e) B hw hz hc0 ((if_some eK).1) (by decide) (ci := 12) rfl rfl my_X12_hopeFrom mv_X12_hopeFrom tw_8_89 ⟨by simp only [rmO, rmA]; omega, by simp only [rmO, rmA]; omega⟩ ⟨Nat.zero_le _, Nat.zero_le _⟩ rfl hl.1 rfl rfl (Nat.le_of_ble_eq_true rfl) dX12_livedHope_18 (fun H locs hw => ?_)
  refine lv_ldc2 hx hb B.2.2.2.1 (B.w tw_7_170 rfl) dX12_livedHope_21 ?_
  obtain ⟨x7, e, hf⟩ := ob hf
  refine q_ldiv e hx hb dX12_livedHope_24 ?_
  refine lv_bipush (v := 10) hx hb dX12_livedHope_25 (by decide) ?_
  refine lv_aload_n hx hb dX12_livedHope_27 rfl (lv_at hl 0 rfl) ?_
  obtain ⟨a8, e, hf⟩ := ob hf
  refine q_getR e B hw fd_12_1.1 fd_12_1.2.1 fd_12_1.2.2.1 fd_12_1.2.2.2.1 fd_12_1.2.2.2.2 rfl tw_6_44 dX12_livedHope_28 ?_
  refine lv_iconst (v := 4) hx hb dX12_livedHope_31 (by decide) ?_
  obtain ⟨x9, e, hf⟩ := ob hf
  refine q_ldI e B hw dX12_livedHope_32 ?_
  refine lv_isub hx hb dX12_livedHope_33 ?_
  refine lv_i2l (v := (Int32.toInt64 (10 - x9))) hx hb dX12_livedHope_34 rfl ?_
  refine lv_lmul hx hb dX12_livedHope_35 ?_
  refine lv_aload_n hx hb dX12_livedHope_36 rfl (lv_at hl 0 rfl) ?_
  refine lv_iload_n hx hb dX12_livedHope_37 rfl (lv_at hl 1 rfl) ?_
  refine lv_iload_n hx hb dX12_livedHope_38 rfl (lv_at hl 3 rfl) ?_
  obtain ⟨_, eK, hf⟩ := ob hf
  obtain ⟨⟨x10, h11⟩, e, hf⟩ := ob hf
  refine q_callV (As := [.int v1, .int v3]) (rest := [.long (x7 * (Int32.toInt64 (10 - x9)))]) (st1 := [.long x10, .long (x7 * (Int32.toInt64 (10 - x9)))]) (H_X12_drawnHope e) B hw hz hc0 ((if_some eK).1) (by decide) (ci := 12) rfl rfl my_X12_drawnHope mv_X12_drawnHope tw_8_97 ⟨by simp only [rmO, rmA]; omega, by simp only [rmO, rmA]; omega⟩ ⟨Nat.zero_le _, Nat.zero_le _⟩ rfl hl.1 rfl rfl (Nat.le_of_ble_eq_true rfl) dX12_livedHope_39 (fun H locs hw => ?_)
  refine lv_ldc2 hx hb B.2.2.2.1 (B.w tw_7_170 rfl) dX12_livedHope_42 ?_
  obtain ⟨x12, e, hf⟩ := ob hf
  refine q_ldiv e hx hb dX12_livedHope_45 ?_
  refine lv_aload_n hx hb dX12_livedHope_46 rfl (lv_at hl 0 rfl) ?_
  obtain ⟨a13, e, hf⟩ := ob hf
  refine q_getR e B hw fd_12_1.1 fd_12_1.2.1 fd_12_1.2.2.1 fd_12_1.2.2.2.1 fd_12_1.2.2.2.2 rfl tw_6_44 dX12_livedHope_47 ?_
  refine lv_iconst (v := 4) hx hb dX12_livedHope_50 (by decide) ?_
  obtain ⟨x14, e, hf⟩ := ob hf
  refine q_ldI e B hw dX12_livedHope_51 ?_
  refine lv_i2l (v := (Int32.toInt64 x14)) hx hb dX12_livedHope_52 rfl ?_
  refine lv_lmul hx hb dX12_livedHope_53 ?_
  refine lv_ladd hx hb dX12_livedHope_54 ?_
  obtain ⟨rfl, rfl⟩ := so2 hf
  exact q_lret B hw hz hc0 hr hlk dX12_livedHope_55
set_option maxHeartbeats 4000000 in
theorem w_X12_hopeFrom_110 {p : Program} {l : Launch} {e : Env} {s : State} {m : MethodId} {args : Array Value} {below : List Frame} {meth : Method} {c : Code} {s0 : State} {E : Ev} {z : Sh} {d : Nat} {g_X12_drawnHope : Sh → Hp → Nat → Int32 → Int32 → Option (Int64 × Hp)} {g_X12_livedHope : Sh → Hp → Nat → Int32 → Int32 → Int32 → Option (Int64 × Hp)} {g_X12_hopeFrom : Sh → Hp → Nat → Int32 → Int32 → Option (Int64 × Hp)} {n : Nat} {r : Int64} {h' : Hp} (G : Gl s0 E) (B : Bd p s0 s E m c cX12_hopeFrom 9 RX12) (hz : s0.heap.size ≤ z.sz) (hc0 : s.heap.size + 0 = z.sz) (hr : meth.sig.returnType = (some .long)) (hlk : meth.locks = false) (H_X12_drawnHope : ∀ {z : Sh} {h : Hp} {v0 : Nat} {v1 : Int32} {v2 : Int32} {r : Int64} {h' : Hp}, g_X12_drawnHope z h v0 v1 v2 = some (r, h') → Ct l s0 E yX12_drawnHope cX12_drawnHope 3 (some .long) (5 + d) (94 + 60 * d) [.ref v0, .int v1, .int v2] z h h' (some (.long r))) (H_X12_livedHope : ∀ {z : Sh} {h : Hp} {v0 : Nat} {v1 : Int32} {v2 : Int32} {v3 : Int32} {r : Int64} {h' : Hp}, g_X12_livedHope z h v0 v1 v2 v3 = some (r, h') → Ct l s0 E yX12_livedHope cX12_livedHope 4 (some .long) (5 + d) (94 + 60 * d) [.ref v0, .int v1, .int v2, .int v3] z h h' (some (.long r))) (H_X12_hopeFrom : ∀ {z : Sh} {h : Hp} {v0 : Nat} {v1 : Int32} {v2 : Int32} {r : Int64} {h' : Hp}, g_X12_hopeFrom z h v0 v1 v2 = some (r, h') → Ct l s0 E yX12_hopeFrom cX12_hopeFrom 9 (some .long) (5 + d) (94 + 60 * d) [.ref v0, .int v1, .int v2] z h h' (some (.long r))) : ∀ (h : Hp) (v0 : Nat) (v3 : Int32) (v4 : Int64) (H : Heap) (locs : List Loc) (ls : Array Slot), Pw s0 s E z h H locs → lv_has ls 9 [(0, .ref v0), (3, .int v3), (4, .long v4)] → f_X12_hopeFrom_110 n g_X12_drawnHope g_X12_livedHope g_X12_hopeFrom z h v0 v3 v4 = some (r, h') → W p l e (rmO (5 + (d + 1)) (94 + 60 * (d + 1))) s m args below meth c H locs 0 0 (Zt below s0 E z h' (some (.long r)) args s 0 0) (F0 m 110 ls []) := by
  have hx := B.1
  have hb := B.2.1
  intro h v0 v3 v4 H locs ls hw hl hf
  unfold f_X12_hopeFrom_110 at hf
  refine lv_aload_n hx hb dX12_hopeFrom_110 rfl (lv_at hl 0 rfl) ?_
  obtain ⟨a1, e, hf⟩ := ob hf
  refine q_getR e B hw fd_12_30.1 fd_12_30.2.1 fd_12_30.2.2.1 fd_12_30.2.2.2.1 fd_12_30.2.2.2.2 rfl tw_6_73 dX12_hopeFrom_111 ?_
  refine lv_iload_n hx hb dX12_hopeFrom_114 rfl (lv_at hl 1 rfl) ?_
  refine lv_lload hx hb dX12_hopeFrom_115 (lv_at hl 2 rfl) ?_
  obtain ⟨h2, e, hf⟩ := ob hf
  refine q_stJ e B hw dX12_hopeFrom_117 (fun H locs hw => ?_)
  refine lv_lload hx hb dX12_hopeFrom_118 (lv_at hl 2 rfl) ?_
  obtain ⟨rfl, rfl⟩ := so2 hf
  exact q_lret B hw hz hc0 hr hlk dX12_hopeFrom_120
set_option maxHeartbeats 4000000 in
theorem w_X12_hopeFrom_102 {p : Program} {l : Launch} {e : Env} {s : State} {m : MethodId} {args : Array Value} {below : List Frame} {meth : Method} {c : Code} {s0 : State} {E : Ev} {z : Sh} {d : Nat} {g_X12_drawnHope : Sh → Hp → Nat → Int32 → Int32 → Option (Int64 × Hp)} {g_X12_livedHope : Sh → Hp → Nat → Int32 → Int32 → Int32 → Option (Int64 × Hp)} {g_X12_hopeFrom : Sh → Hp → Nat → Int32 → Int32 → Option (Int64 × Hp)} {n : Nat} {k58 : Hp → Nat → Int32 → Int32 → Int32 → Int64 → Int32 → Option (Int64 × Hp)} {r : Int64} {h' : Hp} (G : Gl s0 E) (B : Bd p s0 s E m c cX12_hopeFrom 9 RX12) (hz : s0.heap.size ≤ z.sz) (hc0 : s.heap.size + 0 = z.sz) (hr : meth.sig.returnType = (some .long)) (hlk : meth.locks = false) (H_X12_drawnHope : ∀ {z : Sh} {h : Hp} {v0 : Nat} {v1 : Int32} {v2 : Int32} {r : Int64} {h' : Hp}, g_X12_drawnHope z h v0 v1 v2 = some (r, h') → Ct l s0 E yX12_drawnHope cX12_drawnHope 3 (some .long) (5 + d) (94 + 60 * d) [.ref v0, .int v1, .int v2] z h h' (some (.long r))) (H_X12_livedHope : ∀ {z : Sh} {h : Hp} {v0 : Nat} {v1 : Int32} {v2 : Int32} {v3 : Int32} {r : Int64} {h' : Hp}, g_X12_livedHope z h v0 v1 v2 v3 = some (r, h') → Ct l s0 E yX12_livedHope cX12_livedHope 4 (some .long) (5 + d) (94 + 60 * d) [.ref v0, .int v1, .int v2, .int v3] z h h' (some (.long r))) (H_X12_hopeFrom : ∀ {z : Sh} {h : Hp} {v0 : Nat} {v1 : Int32} {v2 : Int32} {r : Int64} {h' : Hp}, g_X12_hopeFrom z h v0 v1 v2 = some (r, h') → Ct l s0 E yX12_hopeFrom cX12_hopeFrom 9 (some .long) (5 + d) (94 + 60 * d) [.ref v0, .int v1, .int v2] z h h' (some (.long r))) (hk58 : ∀ (h : Hp) (v0 : Nat) (v1 : Int32) (v2 : Int32) (v3 : Int32) (v4 : Int64) (v6 : Int32) (H : Heap) (locs : List Loc) (ls : Array Slot), Pw s0 s E z h H locs → lv_has ls 9 [(0, .ref v0), (1, .int v1), (2, .int v2), (3, .int v3), (4, .long v4), (6, .int v6)] → k58 h v0 v1 v2 v3 v4 v6 = some (r, h') → W p l e (rmO (5 + (d + 1)) (94 + 60 * (d + 1))) s m args below meth c H locs 0 0 (Zt below s0 E z h' (some (.long r)) args s 0 0) (F0 m 58 ls [])) : ∀ (h : Hp) (v0 : Nat) (v1 : Int32) (v2 : Int32) (v3 : Int32) (v6 : Int32) (u0 : Int64) (H : Heap) (locs : List Loc) (ls : Array Slot), Pw s0 s E z h H locs → lv_has ls 9 [(0, .ref v0), (1, .int v1), (2, .int v2), (3, .int v3), (6, .int v6)] → f_X12_hopeFrom_102 n g_X12_drawnHope g_X12_livedHope g_X12_hopeFrom z k58 h v0 v1 v2 v3 v6 u0 = some (r, h') → W p l e (rmO (5 + (d + 1)) (94 + 60 * (d + 1))) s m args below meth c H locs 0 0 (Zt below s0 E z h' (some (.long r)) args s 0 0) (F0 m 102 ls [.long u0]) := by
  have hx := B.1
  have hb := B.2.1
  intro h v0 v1 v2 v3 v6 u0 H locs ls hw hl hf
  unfold f_X12_hopeFrom_102 at hf
  refine lv_lstore (lv' := [(4, .long u0), (0, .ref v0), (1, .int v1), (2, .int v2), (3, .int v3), (6, .int v6)]) hx hb dX12_hopeFrom_102 hl (by decide) rfl (fun ls hl => ?_)
  obtain ⟨x1, e, hf⟩ := ob hf
  refine lv_iinc (v := x1) (lv' := [(6, .int x1), (4, .long u0), (0, .ref v0), (1, .int v1), (2, .int v2), (3, .int v3)]) hx hb dX12_hopeFrom_104 hl (k := 5) rfl (Option.some.inj e) (by decide) rfl (fun ls hl => ?_)
  refine lv_goto (tgt := 58) hx hb dX12_hopeFrom_107 (by decide) ?_
  exact hk58 h v0 v1 v2 v3 u0 x1 _ _ _ hw (lv_sub hl [2, 3, 4, 5, 1, 0] rfl) hf
set_option maxHeartbeats 4000000 in
theorem w_X12_hopeFrom_58 {p : Program} {l : Launch} {e : Env} {s : State} {m : MethodId} {args : Array Value} {below : List Frame} {meth : Method} {c : Code} {s0 : State} {E : Ev} {z : Sh} {d : Nat} {g_X12_drawnHope : Sh → Hp → Nat → Int32 → Int32 → Option (Int64 × Hp)} {g_X12_livedHope : Sh → Hp → Nat → Int32 → Int32 → Int32 → Option (Int64 × Hp)} {g_X12_hopeFrom : Sh → Hp → Nat → Int32 → Int32 → Option (Int64 × Hp)} {n : Nat} {r : Int64} {h' : Hp} (G : Gl s0 E) (B : Bd p s0 s E m c cX12_hopeFrom 9 RX12) (hz : s0.heap.size ≤ z.sz) (hc0 : s.heap.size + 0 = z.sz) (hr : meth.sig.returnType = (some .long)) (hlk : meth.locks = false) (H_X12_drawnHope : ∀ {z : Sh} {h : Hp} {v0 : Nat} {v1 : Int32} {v2 : Int32} {r : Int64} {h' : Hp}, g_X12_drawnHope z h v0 v1 v2 = some (r, h') → Ct l s0 E yX12_drawnHope cX12_drawnHope 3 (some .long) (5 + d) (94 + 60 * d) [.ref v0, .int v1, .int v2] z h h' (some (.long r))) (H_X12_livedHope : ∀ {z : Sh} {h : Hp} {v0 : Nat} {v1 : Int32} {v2 : Int32} {v3 : Int32} {r : Int64} {h' : Hp}, g_X12_livedHope z h v0 v1 v2 v3 = some (r, h') → Ct l s0 E yX12_livedHope cX12_livedHope 4 (some .long) (5 + d) (94 + 60 * d) [.ref v0, .int v1, .int v2, .int v3] z h h' (some (.long r))) (H_X12_hopeFrom : ∀ {z : Sh} {h : Hp} {v0 : Nat} {v1 : Int32} {v2 : Int32} {r : Int64} {h' : Hp}, g_X12_hopeFrom z h v0 v1 v2 = some (r, h') → Ct l s0 E yX12_hopeFrom cX12_hopeFrom 9 (some .long) (5 + d) (94 + 60 * d) [.ref v0, .int v1, .int v2] z h h' (some (.long r))) : ∀ (i : Nat), ∀ (h : Hp) (v0 : Nat) (v1 : Int32) (v2 : Int32) (v3 : Int32) (v4 : Int64) (v6 : Int32) (H : Heap) (locs : List Loc) (ls : Array Slot), Pw s0 s E z h H locs → lv_has ls 9 [(0, .ref v0), (1, .int v1), (2, .int v2), (3, .int v3), (4, .long v4), (6, .int v6)] → f_X12_hopeFrom_58 n g_X12_drawnHope g_X12_livedHope g_X12_hopeFrom z i h v0 v1 v2 v3 v4 v6 = some (r, h') → W p l e (rmO (5 + (d + 1)) (94 + 60 * (d + 1))) s m args below meth c H locs 0 0 (Zt below s0 E z h' (some (.long r)) args s 0 0) (F0 m 58 ls []) := by
  have hx := B.1
  have hb := B.2.1
  intro i
  induction i with
  | zero =>
    intro h v0 v1 v2 v3 v4 v6 H locs ls hw hl hf
    have hf := (f_X12_hopeFrom_58.eq_1 ..).symm.trans hf
    cases hf
  | succ i ih =>
    intro h v0 v1 v2 v3 v4 v6 H locs ls hw hl hf
    have hf := (f_X12_hopeFrom_58.eq_2 ..).symm.trans hf
    refine lv_iload hx hb dX12_hopeFrom_58 (lv_at hl 5 rfl) ?_
    refine lv_aload_n hx hb dX12_hopeFrom_60 rfl (lv_at hl 0 rfl) ?_
    obtain ⟨a1, e, hf⟩ := ob hf
    refine q_getR e B hw fd_12_1.1 fd_12_1.2.1 fd_12_1.2.2.1 fd_12_1.2.2.2.1 fd_12_1.2.2.2.2 rfl tw_6_44 dX12_hopeFrom_61 ?_
    refine lv_iconst (v := 2) hx hb dX12_hopeFrom_64 (by decide) ?_
    obtain ⟨x2, e, hf⟩ := ob hf
    refine q_ldI e B hw dX12_hopeFrom_65 ?_
    refine lv_icmp_ge (tgt := 110) hx hb dX12_hopeFrom_66 (by decide) (fun c3 => ?_) (fun c3 => ?_)
    · have hf := (if_pos c3).symm.trans hf
      exact w_X12_hopeFrom_110 G B hz hc0 hr hlk H_X12_drawnHope H_X12_livedHope H_X12_hopeFrom  h v0 v3 v4 _ _ _ hw (lv_sub hl [0, 3, 4] rfl) hf
    · have hf := (if_neg c3).symm.trans hf
      refine lv_aload_n hx hb dX12_hopeFrom_69 rfl (lv_at hl 0 rfl) ?_
      refine lv_iload_n hx hb dX12_hopeFrom_70 rfl (lv_at hl 1 rfl) ?_
      obtain ⟨x4, e, hf⟩ := ob hf
      refine q_callV (As := [.int v1]) (rest := []) (st1 := [.int x4]) (c_X12_isOver G e) B hw hz hc0 (k_X12_isOver e) (by decide) (ci := 12) rfl rfl my_X12_isOver mv_X12_isOver tw_7_55 ⟨by simp only [rmO, rmA]; omega, by simp only [rmO, rmA]; omega⟩ ⟨Nat.zero_le _, Nat.zero_le _⟩ rfl hl.1 rfl rfl (Nat.le_of_ble_eq_true rfl) dX12_hopeFrom_71 (fun H locs hw => ?_)
      refine lv_if_ne (tgt := 110) hx hb dX12_hopeFrom_74 (by decide) (fun c5 => ?_) (fun c5 => ?_)
      · have hf := (if_neg c5).symm.trans hf
        exact w_X12_hopeFrom_110 G B hz hc0 hr hlk H_X12_drawnHope H_X12_livedHope H_X12_hopeFrom  h v0 v3 v4 _ _ _ hw (lv_sub hl [0, 3, 4] rfl) hf
      · have hf := (if_pos c5).symm.trans hf
        refine lv_aload_n hx hb dX12_hopeFrom_77 rfl (lv_at hl 0 rfl) ?_
        refine lv_iload_n hx hb dX12_hopeFrom_78 rfl (lv_at hl 1 rfl) ?_
        refine lv_iload hx hb dX12_hopeFrom_79 (lv_at hl 5 rfl) ?_
        refine lv_iload_n hx hb dX12_hopeFrom_81 rfl (lv_at hl 2 rfl) ?_
        obtain ⟨_, eK, hf⟩ := ob hf
        obtain ⟨⟨x6, h7⟩, e, hf⟩ := ob hf
        refine q_callV (As := [.int v1, .int v6, .int v2]) (rest := []) (st1 := [.long x6]) (H_X12_livedHope e) B hw hz hc0 ((if_some eK).1) (by decide) (ci := 12) rfl rfl my_X12_livedHope mv_X12_livedHope tw_8_101 ⟨by simp only [rmO, rmA]; omega, by simp only [rmO, rmA]; omega⟩ ⟨Nat.zero_le _, Nat.zero_le _⟩ rfl hl.1 rfl rfl (Nat.le_of_ble_eq_true rfl) dX12_hopeFrom_82 (fun H locs hw => ?_)
        refine lv_lstore (lv' := [(7, .long x6), (0, .ref v0), (1, .int v1), (2, .int v2), (3, .int v3), (4, .long v4), (6, .int v6)]) hx hb dX12_hopeFrom_85 hl (by decide) rfl (fun ls hl => ?_)
        refine lv_lload hx hb dX12_hopeFrom_87 (lv_at hl 0 rfl) ?_
        refine lv_lload hx hb dX12_hopeFrom_89 (lv_at hl 5 rfl) ?_
        refine W.lcmp hx hb dX12_hopeFrom_91 ?_
        refine lv_if_le (tgt := 100) hx hb dX12_hopeFrom_92 (by decide) (fun c8 => ?_) (fun c8 => ?_)
        · have hf := (if_pos c8).symm.trans hf
          refine lv_lload hx hb dX12_hopeFrom_100 (lv_at hl 5 rfl) ?_
          exact w_X12_hopeFrom_102 G B hz hc0 hr hlk H_X12_drawnHope H_X12_livedHope H_X12_hopeFrom ih h7 v0 v1 v2 v3 v6 v4 _ _ _ hw (lv_sub hl [1, 2, 3, 4, 6] rfl) hf
        · have hf := (if_neg c8).symm.trans hf
          refine lv_lload hx hb dX12_hopeFrom_95 (lv_at hl 0 rfl) ?_
          refine lv_goto (tgt := 102) hx hb dX12_hopeFrom_97 (by decide) ?_
          exact w_X12_hopeFrom_102 G B hz hc0 hr hlk H_X12_drawnHope H_X12_livedHope H_X12_hopeFrom ih h7 v0 v1 v2 v3 v6 x6 _ _ _ hw (lv_sub hl [1, 2, 3, 4, 6] rfl) hf
set_option maxHeartbeats 4000000 in
theorem co_X12_hopeFrom {l : Launch} {s0 : State} {E : Ev} (G : Gl s0 E) {n : Nat} {d : Nat} {g_X12_drawnHope : Sh → Hp → Nat → Int32 → Int32 → Option (Int64 × Hp)} {g_X12_livedHope : Sh → Hp → Nat → Int32 → Int32 → Int32 → Option (Int64 × Hp)} {g_X12_hopeFrom : Sh → Hp → Nat → Int32 → Int32 → Option (Int64 × Hp)} (H_X12_drawnHope : ∀ {z : Sh} {h : Hp} {v0 : Nat} {v1 : Int32} {v2 : Int32} {r : Int64} {h' : Hp}, g_X12_drawnHope z h v0 v1 v2 = some (r, h') → Ct l s0 E yX12_drawnHope cX12_drawnHope 3 (some .long) (5 + d) (94 + 60 * d) [.ref v0, .int v1, .int v2] z h h' (some (.long r))) (H_X12_livedHope : ∀ {z : Sh} {h : Hp} {v0 : Nat} {v1 : Int32} {v2 : Int32} {v3 : Int32} {r : Int64} {h' : Hp}, g_X12_livedHope z h v0 v1 v2 v3 = some (r, h') → Ct l s0 E yX12_livedHope cX12_livedHope 4 (some .long) (5 + d) (94 + 60 * d) [.ref v0, .int v1, .int v2, .int v3] z h h' (some (.long r))) (H_X12_hopeFrom : ∀ {z : Sh} {h : Hp} {v0 : Nat} {v1 : Int32} {v2 : Int32} {r : Int64} {h' : Hp}, g_X12_hopeFrom z h v0 v1 v2 = some (r, h') → Ct l s0 E yX12_hopeFrom cX12_hopeFrom 9 (some .long) (5 + d) (94 + 60 * d) [.ref v0, .int v1, .int v2] z h h' (some (.long r))) {z : Sh} {h : Hp} {v0 : Nat} {v1 : Int32} {v2 : Int32} {r : Int64} {h' : Hp} (hf : F_X12_hopeFrom n g_X12_drawnHope g_X12_livedHope g_X12_hopeFrom z h v0 v1 v2 = some (r, h')) : Ct l s0 E yX12_hopeFrom cX12_hopeFrom 9 (some .long) (5 + (d + 1)) (94 + 60 * (d + 1)) [.ref v0, .int v1, .int v2] z h h' (some (.long r)) := by
  refine Ct.of G (by decide) (Nat.le_of_ble_eq_true rfl) ?_
  intro p e s m below meth c ls B hw hz hc0 hr hlk hl
  have B : Bd p s0 s E m c cX12_hopeFrom 9 RX12 := B
  have hx := B.1
  have hb := B.2.1
  have hl : lv_has ls 9 [(0, .ref v0), (1, .int v1), (2, .int v2)] := hl
  unfold F_X12_hopeFrom at hf
  obtain ⟨_, hf⟩ := if_some hf
  refine lv_iload_n hx hb dX12_hopeFrom_0 rfl (lv_at hl 2 rfl) ?_
  refine lv_if_gt (tgt := 8) hx hb dX12_hopeFrom_1 (by decide) (fun c1 => ?_) (fun c1 => ?_)
  · have hf := (if_pos c1).symm.trans hf
    refine lv_iload_n hx hb dX12_hopeFrom_8 rfl (lv_at hl 2 rfl) ?_
    refine lv_bipush (v := 9) hx hb dX12_hopeFrom_9 (by decide) ?_
    refine lv_aload_n hx hb dX12_hopeFrom_11 rfl (lv_at hl 0 rfl) ?_
    refine lv_iload_n hx hb dX12_hopeFrom_12 rfl (lv_at hl 1 rfl) ?_
    obtain ⟨x2, e, hf⟩ := ob hf
    refine q_callV (As := [.int v1]) (rest := [.int 9, .int v2]) (st1 := [.int x2, .int 9, .int v2]) (c_X12_yearsLeft G e) B hw hz hc0 (k_X12_yearsLeft e) (by decide) (ci := 12) rfl rfl my_X12_yearsLeft mv_X12_yearsLeft tw_8_93 ⟨by simp only [rmO, rmA]; omega, by simp only [rmO, rmA]; omega⟩ ⟨Nat.zero_le _, Nat.zero_le _⟩ rfl hl.1 rfl rfl (Nat.le_of_ble_eq_true rfl) dX12_hopeFrom_13 (fun H locs hw => ?_)
    refine lv_imul hx hb dX12_hopeFrom_16 ?_
    refine lv_icmp_le (tgt := 22) hx hb dX12_hopeFrom_17 (by decide) (fun c3 => ?_) (fun c3 => ?_)
    · have hf := (if_pos c3).symm.trans hf
      refine lv_bipush (v := 109) hx hb dX12_hopeFrom_22 (by decide) ?_
      refine lv_iload_n hx hb dX12_hopeFrom_24 rfl (lv_at hl 1 rfl) ?_
      refine lv_imul hx hb dX12_hopeFrom_25 ?_
      refine lv_iload_n hx hb dX12_hopeFrom_26 rfl (lv_at hl 2 rfl) ?_
      refine lv_iadd hx hb dX12_hopeFrom_27 ?_
      obtain ⟨x4, e, hf⟩ := ob hf
      refine q_nmI e ?_
      refine lv_istore_n (lv' := [(3, .int x4), (0, .ref v0), (1, .int v1), (2, .int v2)]) hx hb dX12_hopeFrom_28 rfl hl (by decide) rfl (fun ls hl => ?_)
      refine lv_aload_n hx hb dX12_hopeFrom_29 rfl (lv_at hl 1 rfl) ?_
      obtain ⟨a5, e, hf⟩ := ob hf
      refine q_getR e B hw fd_12_30.1 fd_12_30.2.1 fd_12_30.2.2.1 fd_12_30.2.2.2.1 fd_12_30.2.2.2.2 rfl tw_6_73 dX12_hopeFrom_30 ?_
      refine lv_iload_n hx hb dX12_hopeFrom_33 rfl (lv_at hl 0 rfl) ?_
      obtain ⟨x6, e, hf⟩ := ob hf
      refine q_ldJ e B hw dX12_hopeFrom_34 ?_
      refine lv_lconst (v := 0) hx hb dX12_hopeFrom_35 (by decide) ?_
      refine W.lcmp hx hb dX12_hopeFrom_36 ?_
      refine lv_if_lt (tgt := 47) hx hb dX12_hopeFrom_37 (by decide) (fun c7 => ?_) (fun c7 => ?_)
      · have hf := (if_pos c7).symm.trans hf
        refine lv_aload_n hx hb dX12_hopeFrom_47 rfl (lv_at hl 1 rfl) ?_
        refine lv_iload_n hx hb dX12_hopeFrom_48 rfl (lv_at hl 2 rfl) ?_
        refine lv_iload_n hx hb dX12_hopeFrom_49 rfl (lv_at hl 3 rfl) ?_
        obtain ⟨_, eK, hf⟩ := ob hf
        obtain ⟨⟨x8, h9⟩, e, hf⟩ := ob hf
        refine q_callV (As := [.int v1, .int v2]) (rest := []) (st1 := [.long x8]) (H_X12_drawnHope e) B hw hz hc0 ((if_some eK).1) (by decide) (ci := 12) rfl rfl my_X12_drawnHope mv_X12_drawnHope tw_8_97 ⟨by simp only [rmO, rmA]; omega, by simp only [rmO, rmA]; omega⟩ ⟨Nat.zero_le _, Nat.zero_le _⟩ rfl hl.1 rfl rfl (Nat.le_of_ble_eq_true rfl) dX12_hopeFrom_50 (fun H locs hw => ?_)
        refine lv_lstore (lv' := [(4, .long x8), (3, .int x4), (0, .ref v0), (1, .int v1), (2, .int v2)]) hx hb dX12_hopeFrom_53 hl (by decide) rfl (fun ls hl => ?_)
        refine lv_iconst (v := 0) hx hb dX12_hopeFrom_55 (by decide) ?_
        refine lv_istore (lv' := [(6, .int 0), (4, .long x8), (3, .int x4), (0, .ref v0), (1, .int v1), (2, .int v2)]) hx hb dX12_hopeFrom_56 hl (by decide) rfl (fun ls hl => ?_)
        exact w_X12_hopeFrom_58 G B hz hc0 hr hlk H_X12_drawnHope H_X12_livedHope H_X12_hopeFrom  n h9 v0 v1 v2 x4 x8 0 _ _ _ hw (lv_sub hl [3, 4, 5, 2, 1, 0] rfl) hf
      · have hf := (if_neg c7).symm.trans hf
        refine lv_aload_n hx hb dX12_hopeFrom_40 rfl (lv_at hl 1 rfl) ?_
        obtain ⟨a10, e, hf⟩ := ob hf
        refine q_getR e B hw fd_12_30.1 fd_12_30.2.1 fd_12_30.2.2.1 fd_12_30.2.2.2.1 fd_12_30.2.2.2.2 rfl tw_6_73 dX12_hopeFrom_41 ?_
        refine lv_iload_n hx hb dX12_hopeFrom_44 rfl (lv_at hl 0 rfl) ?_
        obtain ⟨x11, e, hf⟩ := ob hf
        refine q_ldJ e B hw dX12_hopeFrom_45 ?_
        obtain ⟨rfl, rfl⟩ := so2 hf
        exact q_lret B hw hz hc0 hr hlk dX12_hopeFrom_46
    · have hf := (if_neg c3).symm.trans hf
      refine lv_lconst (v := 0) hx hb dX12_hopeFrom_20 (by decide) ?_
      obtain ⟨rfl, rfl⟩ := so2 hf
      exact q_lret B hw hz hc0 hr hlk dX12_hopeFrom_21
  · have hf := (if_neg c1).symm.trans hf
    refine lv_ldc2 hx hb B.2.2.2.1 (B.w tw_8_63 rfl) dX12_hopeFrom_4 ?_
    obtain ⟨rfl, rfl⟩ := so2 hf
    exact q_lret B hw hz hc0 hr hlk dX12_hopeFrom_7
set_option maxHeartbeats 4000000 in
theorem cg_X12_drawnHope {l : Launch} {s0 : State} {E : Ev} (G : Gl s0 E) {n : Nat} : ∀ d : Nat, (∀ {z : Sh} {h : Hp} {v0 : Nat} {v1 : Int32} {v2 : Int32} {r : Int64} {h' : Hp}, (rc_X12_drawnHope n d).1 z h v0 v1 v2 = some (r, h') → Ct l s0 E yX12_drawnHope cX12_drawnHope 3 (some .long) (5 + d) (94 + 60 * d) [.ref v0, .int v1, .int v2] z h h' (some (.long r))) ∧ (∀ {z : Sh} {h : Hp} {v0 : Nat} {v1 : Int32} {v2 : Int32} {v3 : Int32} {r : Int64} {h' : Hp}, (rc_X12_drawnHope n d).2.1 z h v0 v1 v2 v3 = some (r, h') → Ct l s0 E yX12_livedHope cX12_livedHope 4 (some .long) (5 + d) (94 + 60 * d) [.ref v0, .int v1, .int v2, .int v3] z h h' (some (.long r))) ∧ (∀ {z : Sh} {h : Hp} {v0 : Nat} {v1 : Int32} {v2 : Int32} {r : Int64} {h' : Hp}, (rc_X12_drawnHope n d).2.2 z h v0 v1 v2 = some (r, h') → Ct l s0 E yX12_hopeFrom cX12_hopeFrom 9 (some .long) (5 + d) (94 + 60 * d) [.ref v0, .int v1, .int v2] z h h' (some (.long r))) := by
  intro d
  induction d with
  | zero => exact ⟨fun hf => (by cases hf), fun hf => (by cases hf), fun hf => (by cases hf)⟩
  | succ d ih => exact ⟨fun hf => co_X12_drawnHope (n := n) G (fun hf => ih.1 hf) (fun hf => ih.2.1 hf) (fun hf => ih.2.2 hf) hf, fun hf => co_X12_livedHope (n := n) G (fun hf => ih.1 hf) (fun hf => ih.2.1 hf) (fun hf => ih.2.2 hf) hf, fun hf => co_X12_hopeFrom (n := n) G (fun hf => ih.1 hf) (fun hf => ih.2.1 hf) (fun hf => ih.2.2 hf) hf⟩
theorem c_X12_drawnHope {l : Launch} {s0 : State} {E : Ev} (G : Gl s0 E) {n : Nat} {z : Sh} {h : Hp} {v0 : Nat} {v1 : Int32} {v2 : Int32} {r : Int64} {h' : Hp} (hf : f_X12_drawnHope n z h v0 v1 v2 = some (r, h')) : Ct l s0 E yX12_drawnHope cX12_drawnHope 3 (some .long) 65 3694 [.ref v0, .int v1, .int v2] z h h' (some (.long r)) := (cg_X12_drawnHope G 60).1 hf
theorem c_X12_livedHope {l : Launch} {s0 : State} {E : Ev} (G : Gl s0 E) {n : Nat} {z : Sh} {h : Hp} {v0 : Nat} {v1 : Int32} {v2 : Int32} {v3 : Int32} {r : Int64} {h' : Hp} (hf : f_X12_livedHope n z h v0 v1 v2 v3 = some (r, h')) : Ct l s0 E yX12_livedHope cX12_livedHope 4 (some .long) 65 3694 [.ref v0, .int v1, .int v2, .int v3] z h h' (some (.long r)) := (cg_X12_drawnHope G 60).2.1 hf
theorem c_X12_hopeFrom {l : Launch} {s0 : State} {E : Ev} (G : Gl s0 E) {n : Nat} {z : Sh} {h : Hp} {v0 : Nat} {v1 : Int32} {v2 : Int32} {r : Int64} {h' : Hp} (hf : f_X12_hopeFrom n z h v0 v1 v2 = some (r, h')) : Ct l s0 E yX12_hopeFrom cX12_hopeFrom 9 (some .long) 65 3694 [.ref v0, .int v1, .int v2] z h h' (some (.long r)) := (cg_X12_drawnHope G 60).2.2 hf
