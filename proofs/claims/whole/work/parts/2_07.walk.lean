/-! SecondLifeModel.courseAt(II)I -/
def f_X12_courseAt_51 (n : Nat) (z : Sh) (h : Hp) (v0 : Nat) (v3 : Int32) : Option (Int32 × Hp) :=
  (f_X12_nextBest n z h v0 v3).bind fun (x1, h2) =>
  some (x1, h2)
def f_X12_courseAt_19 (n : Nat) (z : Sh) : Nat → Hp → Nat → Int32 → Int32 → Int32 → Option (Int32 × Hp)
  | 0, _, _, _, _, _ => none
  | i + 1, h, v0, v2, v3, v4 =>
    if v2 ≤ v4 then
      f_X12_courseAt_51 n z h v0 v3
    else
      (gR z h 12 v0 22).bind fun a2 =>
      (ldI z h a2 v3).bind fun x3 =>
      if x3 ≤ 0 then
        f_X12_courseAt_51 n z h v0 v3
      else
        (f_X12_nextBest n z h v0 v3).bind fun (x5, h6) =>
        (f_X12_doneTo n z h6 v0 v3 x5).bind fun (x7, h8) =>
        (some (v4 + 1)).bind fun x9 =>
        (f_X12_courseAt_19 n z i) h8 v0 v2 x7 x9
def f_X12_courseAt (n : Nat) (z : Sh) (h : Hp) (v0 : Nat) (v1 : Int32) (v2 : Int32) : Option (Int32 × Hp) :=
  if z.K v0 = 12 then
    (f_X12_begins n z h v0 v1).bind fun h1 =>
    (f_X12_standNow z h1 v0 v1).bind fun x2 =>
    (f_X12_laysBest n z h1 v0 x2).bind fun h3 =>
    f_X12_courseAt_19 n z n h3 v0 v2 x2 0
  else none
theorem k_X12_courseAt {n : Nat} {z : Sh} {h : Hp} {v0 : Nat} {v1 : Int32} {v2 : Int32} {w : Int32 × Hp} (hf : f_X12_courseAt n z h v0 v1 v2 = some w) : z.K v0 = 12 := by
  unfold f_X12_courseAt at hf
  exact (if_some hf).1
set_option maxHeartbeats 4000000 in
theorem w_X12_courseAt_51 {p : Program} {l : Launch} {e : Env} {s : State} {m : MethodId} {args : Array Value} {below : List Frame} {meth : Method} {c : Code} {s0 : State} {E : Ev} {z : Sh} {n : Nat} {r : Int32} {h' : Hp} (G : Gl s0 E) (B : Bd p s0 s E m c cX12_courseAt 5 RX12) (hz : s0.heap.size ≤ z.sz) (hc0 : s.heap.size + 0 = z.sz) (hr : meth.sig.returnType = (some .int)) (hlk : meth.locks = false) : ∀ (h : Hp) (v0 : Nat) (v3 : Int32) (H : Heap) (locs : List Loc) (ls : Array Slot), Pw s0 s E z h H locs → lv_has ls 5 [(0, .ref v0), (3, .int v3)] → f_X12_courseAt_51 n z h v0 v3 = some (r, h') → W p l e (rmO 26 1320) s m args below meth c H locs 0 0 (Zt below s0 E z h' (some (.int r)) args s 0 0) (F0 m 51 ls []) := by
  have hx := B.1
  have hb := B.2.1
  intro h v0 v3 H locs ls hw hl hf
  unfold f_X12_courseAt_51 at hf
  refine lv_aload_n hx hb dX12_courseAt_51 rfl (lv_at hl 0 rfl) ?_
  refine lv_iload_n hx hb dX12_courseAt_52 rfl (lv_at hl 1 rfl) ?_
  obtain ⟨⟨x1, h2⟩, e, hf⟩ := ob hf
  refine q_callV (As := [.int v3]) (rest := []) (st1 := [.int x1]) (c_X12_nextBest G e) B hw hz hc0 (k_X12_nextBest e) (by decide) (ci := 12) rfl rfl my_X12_nextBest mv_X12_nextBest tw_8_13 ⟨Nat.le_of_ble_eq_true rfl, Nat.le_of_ble_eq_true rfl⟩ ⟨Nat.zero_le _, Nat.zero_le _⟩ rfl hl.1 rfl rfl (Nat.le_of_ble_eq_true rfl) dX12_courseAt_53 (fun H locs hw => ?_)
  obtain ⟨rfl, rfl⟩ := so2 hf
  exact q_iret B hw hz hc0 hr hlk dX12_courseAt_56
set_option maxHeartbeats 4000000 in
theorem w_X12_courseAt_19 {p : Program} {l : Launch} {e : Env} {s : State} {m : MethodId} {args : Array Value} {below : List Frame} {meth : Method} {c : Code} {s0 : State} {E : Ev} {z : Sh} {n : Nat} {r : Int32} {h' : Hp} (G : Gl s0 E) (B : Bd p s0 s E m c cX12_courseAt 5 RX12) (hz : s0.heap.size ≤ z.sz) (hc0 : s.heap.size + 0 = z.sz) (hr : meth.sig.returnType = (some .int)) (hlk : meth.locks = false) : ∀ (i : Nat), ∀ (h : Hp) (v0 : Nat) (v2 : Int32) (v3 : Int32) (v4 : Int32) (H : Heap) (locs : List Loc) (ls : Array Slot), Pw s0 s E z h H locs → lv_has ls 5 [(0, .ref v0), (2, .int v2), (3, .int v3), (4, .int v4)] → f_X12_courseAt_19 n z i h v0 v2 v3 v4 = some (r, h') → W p l e (rmO 26 1320) s m args below meth c H locs 0 0 (Zt below s0 E z h' (some (.int r)) args s 0 0) (F0 m 19 ls []) := by
  have hx := B.1
  have hb := B.2.1
  intro i
  induction i with
  | zero =>
    intro h v0 v2 v3 v4 H locs ls hw hl hf
    have hf := (f_X12_courseAt_19.eq_1 ..).symm.trans hf
    cases hf
  | succ i ih =>
    intro h v0 v2 v3 v4 H locs ls hw hl hf
    have hf := (f_X12_courseAt_19.eq_2 ..).symm.trans hf
    refine lv_iload hx hb dX12_courseAt_19 (lv_at hl 3 rfl) ?_
    refine lv_iload_n hx hb dX12_courseAt_21 rfl (lv_at hl 1 rfl) ?_
    refine lv_icmp_ge (tgt := 51) hx hb dX12_courseAt_22 (by decide) (fun c1 => ?_) (fun c1 => ?_)
    · have hf := (if_pos c1).symm.trans hf
      exact w_X12_courseAt_51 G B hz hc0 hr hlk  h v0 v3 _ _ _ hw (lv_sub hl [0, 2] rfl) hf
    · have hf := (if_neg c1).symm.trans hf
      refine lv_aload_n hx hb dX12_courseAt_25 rfl (lv_at hl 0 rfl) ?_
      obtain ⟨a2, e, hf⟩ := ob hf
      refine q_getR e B hw fd_12_22.1 fd_12_22.2.1 fd_12_22.2.2.1 fd_12_22.2.2.2.1 fd_12_22.2.2.2.2 rfl tw_6_65 dX12_courseAt_26 ?_
      refine lv_iload_n hx hb dX12_courseAt_29 rfl (lv_at hl 2 rfl) ?_
      obtain ⟨x3, e, hf⟩ := ob hf
      refine q_ldI e B hw dX12_courseAt_30 ?_
      refine lv_if_le (tgt := 51) hx hb dX12_courseAt_31 (by decide) (fun c4 => ?_) (fun c4 => ?_)
      · have hf := (if_pos c4).symm.trans hf
        exact w_X12_courseAt_51 G B hz hc0 hr hlk  h v0 v3 _ _ _ hw (lv_sub hl [0, 2] rfl) hf
      · have hf := (if_neg c4).symm.trans hf
        refine lv_aload_n hx hb dX12_courseAt_34 rfl (lv_at hl 0 rfl) ?_
        refine lv_iload_n hx hb dX12_courseAt_35 rfl (lv_at hl 2 rfl) ?_
        refine lv_aload_n hx hb dX12_courseAt_36 rfl (lv_at hl 0 rfl) ?_
        refine lv_iload_n hx hb dX12_courseAt_37 rfl (lv_at hl 2 rfl) ?_
        obtain ⟨⟨x5, h6⟩, e, hf⟩ := ob hf
        refine q_callV (As := [.int v3]) (rest := [.int v3, .ref v0]) (st1 := [.int x5, .int v3, .ref v0]) (c_X12_nextBest G e) B hw hz hc0 (k_X12_nextBest e) (by decide) (ci := 12) rfl rfl my_X12_nextBest mv_X12_nextBest tw_8_13 ⟨Nat.le_of_ble_eq_true rfl, Nat.le_of_ble_eq_true rfl⟩ ⟨Nat.zero_le _, Nat.zero_le _⟩ rfl hl.1 rfl rfl (Nat.le_of_ble_eq_true rfl) dX12_courseAt_38 (fun H locs hw => ?_)
        obtain ⟨⟨x7, h8⟩, e, hf⟩ := ob hf
        refine q_callV (As := [.int v3, .int x5]) (rest := []) (st1 := [.int x7]) (c_X12_doneTo G e) B hw hz hc0 (k_X12_doneTo e) (by decide) (ci := 12) rfl rfl my_X12_doneTo mv_X12_doneTo tw_8_17 ⟨Nat.le_of_ble_eq_true rfl, Nat.le_of_ble_eq_true rfl⟩ ⟨Nat.zero_le _, Nat.zero_le _⟩ rfl hl.1 rfl rfl (Nat.le_of_ble_eq_true rfl) dX12_courseAt_41 (fun H locs hw => ?_)
        refine lv_istore_n (lv' := [(3, .int x7), (0, .ref v0), (2, .int v2), (4, .int v4)]) hx hb dX12_courseAt_44 rfl hl (by decide) rfl (fun ls hl => ?_)
        obtain ⟨x9, e, hf⟩ := ob hf
        refine lv_iinc (v := x9) (lv' := [(4, .int x9), (3, .int x7), (0, .ref v0), (2, .int v2)]) hx hb dX12_courseAt_45 hl (k := 3) rfl (Option.some.inj e) (by decide) rfl (fun ls hl => ?_)
        refine lv_goto (tgt := 19) hx hb dX12_courseAt_48 (by decide) ?_
        exact ih h8 v0 v2 x7 x9 _ _ _ hw (lv_sub hl [2, 3, 1, 0] rfl) hf
set_option maxHeartbeats 4000000 in
theorem c_X12_courseAt {l : Launch} {s0 : State} {E : Ev} (G : Gl s0 E) {n : Nat} {z : Sh} {h : Hp} {v0 : Nat} {v1 : Int32} {v2 : Int32} {r : Int32} {h' : Hp} (hf : f_X12_courseAt n z h v0 v1 v2 = some (r, h')) : Ct l s0 E yX12_courseAt cX12_courseAt 5 (some .int) 26 1320 [.ref v0, .int v1, .int v2] z h h' (some (.int r)) := by
  refine Ct.of G (by decide) (Nat.le_of_ble_eq_true rfl) ?_
  intro p e s m below meth c ls B hw hz hc0 hr hlk hl
  have B : Bd p s0 s E m c cX12_courseAt 5 RX12 := B
  have hx := B.1
  have hb := B.2.1
  have hl : lv_has ls 5 [(0, .ref v0), (1, .int v1), (2, .int v2)] := hl
  unfold f_X12_courseAt at hf
  obtain ⟨_, hf⟩ := if_some hf
  refine lv_aload_n hx hb dX12_courseAt_0 rfl (lv_at hl 0 rfl) ?_
  refine lv_iload_n hx hb dX12_courseAt_1 rfl (lv_at hl 1 rfl) ?_
  obtain ⟨h1, e, hf⟩ := ob hf
  refine q_callV (As := [.int v1]) (rest := []) (st1 := []) (c_X12_begins G e) B hw hz hc0 (k_X12_begins e) (by decide) (ci := 12) rfl rfl my_X12_begins mv_X12_begins tw_7_233 ⟨Nat.le_of_ble_eq_true rfl, Nat.le_of_ble_eq_true rfl⟩ ⟨Nat.zero_le _, Nat.zero_le _⟩ rfl hl.1 rfl rfl (Nat.le_of_ble_eq_true rfl) dX12_courseAt_2 (fun H locs hw => ?_)
  refine lv_aload_n hx hb dX12_courseAt_5 rfl (lv_at hl 0 rfl) ?_
  refine lv_iload_n hx hb dX12_courseAt_6 rfl (lv_at hl 1 rfl) ?_
  obtain ⟨x2, e, hf⟩ := ob hf
  refine q_callV (As := [.int v1]) (rest := []) (st1 := [.int x2]) (c_X12_standNow G e) B hw hz hc0 (k_X12_standNow e) (by decide) (ci := 12) rfl rfl my_X12_standNow mv_X12_standNow tw_7_48 ⟨Nat.le_of_ble_eq_true rfl, Nat.le_of_ble_eq_true rfl⟩ ⟨Nat.zero_le _, Nat.zero_le _⟩ rfl hl.1 rfl rfl (Nat.le_of_ble_eq_true rfl) dX12_courseAt_7 (fun H locs hw => ?_)
  refine lv_istore_n (lv' := [(3, .int x2), (0, .ref v0), (1, .int v1), (2, .int v2)]) hx hb dX12_courseAt_10 rfl hl (by decide) rfl (fun ls hl => ?_)
  refine lv_aload_n hx hb dX12_courseAt_11 rfl (lv_at hl 1 rfl) ?_
  refine lv_iload_n hx hb dX12_courseAt_12 rfl (lv_at hl 0 rfl) ?_
  obtain ⟨h3, e, hf⟩ := ob hf
  refine q_callV (As := [.int x2]) (rest := []) (st1 := []) (c_X12_laysBest G e) B hw hz hc0 (k_X12_laysBest e) (by decide) (ci := 12) rfl rfl my_X12_laysBest mv_X12_laysBest tw_7_237 ⟨Nat.le_of_ble_eq_true rfl, Nat.le_of_ble_eq_true rfl⟩ ⟨Nat.zero_le _, Nat.zero_le _⟩ rfl hl.1 rfl rfl (Nat.le_of_ble_eq_true rfl) dX12_courseAt_13 (fun H locs hw => ?_)
  refine lv_iconst (v := 0) hx hb dX12_courseAt_16 (by decide) ?_
  refine lv_istore (lv' := [(4, .int 0), (3, .int x2), (0, .ref v0), (1, .int v1), (2, .int v2)]) hx hb dX12_courseAt_17 hl (by decide) rfl (fun ls hl => ?_)
  exact w_X12_courseAt_19 G B hz hc0 hr hlk  n h3 v0 v2 x2 0 _ _ _ hw (lv_sub hl [2, 4, 1, 0] rfl) hf
/-! SecondLifeModel.course(II)I -/
def f_X12_course (n : Nat) (z : Sh) (h : Hp) (v0 : Nat) (v1 : Int32) (v2 : Int32) : Option (Int32 × Hp) :=
  if z.K v0 = 12 then
    (pI z h 12 v0 0 0).bind fun h1 =>
    (f_X12_isPerson z h1 v0 (Int32.toInt64 v1)).bind fun x2 =>
    if x2 = 0 then
      some (((-99000002) : Int32), h1)
    else
      if 0 ≤ v2 then
        (f_X12_courseAt n z h1 v0 v1 v2).bind fun (x5, h6) =>
        some (x5, h6)
      else
        some (((-99000003) : Int32), h1)
  else none
theorem k_X12_course {n : Nat} {z : Sh} {h : Hp} {v0 : Nat} {v1 : Int32} {v2 : Int32} {w : Int32 × Hp} (hf : f_X12_course n z h v0 v1 v2 = some w) : z.K v0 = 12 := by
  unfold f_X12_course at hf
  exact (if_some hf).1
set_option maxHeartbeats 4000000 in
theorem c_X12_course {l : Launch} {s0 : State} {E : Ev} (G : Gl s0 E) {n : Nat} {z : Sh} {h : Hp} {v0 : Nat} {v1 : Int32} {v2 : Int32} {r : Int32} {h' : Hp} (hf : f_X12_course n z h v0 v1 v2 = some (r, h')) : Ct l s0 E yX12_course cX12_course 3 (some .int) 27 1344 [.ref v0, .int v1, .int v2] z h h' (some (.int r)) := by
  refine Ct.of G (by decide) (Nat.le_of_ble_eq_true rfl) ?_
  intro p e s m below meth c ls B hw hz hc0 hr hlk hl
  have B : Bd p s0 s E m c cX12_course 3 RX12 := B
  have hx := B.1
  have hb := B.2.1
  have hl : lv_has ls 3 [(0, .ref v0), (1, .int v1), (2, .int v2)] := hl
  unfold f_X12_course at hf
  obtain ⟨_, hf⟩ := if_some hf
  refine lv_aload_n hx hb dX12_course_0 rfl (lv_at hl 0 rfl) ?_
  refine lv_iconst (v := 0) hx hb dX12_course_1 (by decide) ?_
  obtain ⟨h1, e, hf⟩ := ob hf
  refine q_putI e B hw fd_12_0.1 fd_12_0.2.1 fd_12_0.2.2.1 fd_12_0.2.2.2.1 fd_12_0.2.2.2.2 rfl rfl (tyX12_ok 0 (by decide)) tyX12 tyX12_ok nmX12 tw_6_43 dX12_course_2 (fun H locs hw => ?_)
  refine lv_aload_n hx hb dX12_course_5 rfl (lv_at hl 0 rfl) ?_
  refine lv_iload_n hx hb dX12_course_6 rfl (lv_at hl 1 rfl) ?_
  refine lv_i2l (v := (Int32.toInt64 v1)) hx hb dX12_course_7 rfl ?_
  obtain ⟨x2, e, hf⟩ := ob hf
  refine q_callV (As := [.long (Int32.toInt64 v1)]) (rest := []) (st1 := [.int x2]) (c_X12_isPerson G e) B hw hz hc0 (k_X12_isPerson e) (by decide) (ci := 12) rfl rfl my_X12_isPerson mv_X12_isPerson tw_7_35 ⟨Nat.le_of_ble_eq_true rfl, Nat.le_of_ble_eq_true rfl⟩ ⟨Nat.zero_le _, Nat.zero_le _⟩ rfl hl.1 rfl rfl (Nat.le_of_ble_eq_true rfl) dX12_course_8 (fun H locs hw => ?_)
  refine lv_if_ne (tgt := 17) hx hb dX12_course_11 (by decide) (fun c3 => ?_) (fun c3 => ?_)
  · have hf := (if_neg c3).symm.trans hf
    refine lv_iload_n hx hb dX12_course_17 rfl (lv_at hl 2 rfl) ?_
    refine lv_if_ge (tgt := 24) hx hb dX12_course_18 (by decide) (fun c4 => ?_) (fun c4 => ?_)
    · have hf := (if_pos c4).symm.trans hf
      refine lv_aload_n hx hb dX12_course_24 rfl (lv_at hl 0 rfl) ?_
      refine lv_iload_n hx hb dX12_course_25 rfl (lv_at hl 1 rfl) ?_
      refine lv_iload_n hx hb dX12_course_26 rfl (lv_at hl 2 rfl) ?_
      obtain ⟨⟨x5, h6⟩, e, hf⟩ := ob hf
      refine q_callV (As := [.int v1, .int v2]) (rest := []) (st1 := [.int x5]) (c_X12_courseAt G e) B hw hz hc0 (k_X12_courseAt e) (by decide) (ci := 12) rfl rfl my_X12_courseAt mv_X12_courseAt tw_8_9 ⟨Nat.le_of_ble_eq_true rfl, Nat.le_of_ble_eq_true rfl⟩ ⟨Nat.zero_le _, Nat.zero_le _⟩ rfl hl.1 rfl rfl (Nat.le_of_ble_eq_true rfl) dX12_course_27 (fun H locs hw => ?_)
      obtain ⟨rfl, rfl⟩ := so2 hf
      exact q_iret B hw hz hc0 hr hlk dX12_course_30
    · have hf := (if_neg c4).symm.trans hf
      refine lv_ldc hx hb B.2.2.2.1 (B.w tw_6_165 rfl) dX12_course_21 ?_
      obtain ⟨rfl, rfl⟩ := so2 hf
      exact q_iret B hw hz hc0 hr hlk dX12_course_23
  · have hf := (if_pos c3).symm.trans hf
    refine lv_ldc hx hb B.2.2.2.1 (B.w tw_7_39 rfl) dX12_course_14 ?_
    obtain ⟨rfl, rfl⟩ := so2 hf
    exact q_iret B hw hz hc0 hr hlk dX12_course_16
/-! SecondLifeModel.drawsAt(I)I -/
def f_X12_drawsAt_66 (n : Nat) (z : Sh) (h : Hp) (v0 : Nat) (v2 : Int32) : Option (Int32 × Hp) :=
  (gR z h 12 v0 22).bind fun a1 =>
  (ldI z h a1 v2).bind fun x2 =>
  if x2 ≤ 0 then
    some (((-1) : Int32), h)
  else
    (f_X12_yearOf z h v2).bind fun x4 =>
    some (x4, h)
def f_X12_drawsAt_33 (n : Nat) (z : Sh) : Nat → Hp → Nat → Int32 → Option (Int32 × Hp)
  | 0, _, _, _ => none
  | i + 1, h, v0, v2 =>
    (gR z h 12 v0 22).bind fun a1 =>
    (ldI z h a1 v2).bind fun x2 =>
    if x2 ≤ 0 then
      f_X12_drawsAt_66 n z h v0 v2
    else
      (f_X12_nextBest n z h v0 v2).bind fun (x4, h5) =>
      if x4 = 9 then
        f_X12_drawsAt_66 n z h5 v0 v2
      else
        (f_X12_nextBest n z h5 v0 v2).bind fun (x7, h8) =>
        (f_X12_doneTo n z h8 v0 v2 x7).bind fun (x9, h10) =>
        (f_X12_drawsAt_33 n z i) h10 v0 x9
def f_X12_drawsAt (n : Nat) (z : Sh) (h : Hp) (v0 : Nat) (v1 : Int32) : Option (Int32 × Hp) :=
  if z.K v0 = 12 then
    (pI z h 12 v0 0 0).bind fun h1 =>
    (f_X12_isPerson z h1 v0 (Int32.toInt64 v1)).bind fun x2 =>
    if x2 = 0 then
      some (((-99000002) : Int32), h1)
    else
      (f_X12_begins n z h1 v0 v1).bind fun h4 =>
      (f_X12_standNow z h4 v0 v1).bind fun x5 =>
      (f_X12_laysBest n z h4 v0 x5).bind fun h6 =>
      f_X12_drawsAt_33 n z n h6 v0 x5
  else none
theorem k_X12_drawsAt {n : Nat} {z : Sh} {h : Hp} {v0 : Nat} {v1 : Int32} {w : Int32 × Hp} (hf : f_X12_drawsAt n z h v0 v1 = some w) : z.K v0 = 12 := by
  unfold f_X12_drawsAt at hf
  exact (if_some hf).1
set_option maxHeartbeats 4000000 in
theorem w_X12_drawsAt_66 {p : Program} {l : Launch} {e : Env} {s : State} {m : MethodId} {args : Array Value} {below : List Frame} {meth : Method} {c : Code} {s0 : State} {E : Ev} {z : Sh} {n : Nat} {r : Int32} {h' : Hp} (G : Gl s0 E) (B : Bd p s0 s E m c cX12_drawsAt 3 RX12) (hz : s0.heap.size ≤ z.sz) (hc0 : s.heap.size + 0 = z.sz) (hr : meth.sig.returnType = (some .int)) (hlk : meth.locks = false) : ∀ (h : Hp) (v0 : Nat) (v2 : Int32) (H : Heap) (locs : List Loc) (ls : Array Slot), Pw s0 s E z h H locs → lv_has ls 3 [(0, .ref v0), (2, .int v2)] → f_X12_drawsAt_66 n z h v0 v2 = some (r, h') → W p l e (rmO 26 1320) s m args below meth c H locs 0 0 (Zt below s0 E z h' (some (.int r)) args s 0 0) (F0 m 66 ls []) := by
  have hx := B.1
  have hb := B.2.1
  intro h v0 v2 H locs ls hw hl hf
  unfold f_X12_drawsAt_66 at hf
  refine lv_aload_n hx hb dX12_drawsAt_66 rfl (lv_at hl 0 rfl) ?_
  obtain ⟨a1, e, hf⟩ := ob hf
  refine q_getR e B hw fd_12_22.1 fd_12_22.2.1 fd_12_22.2.2.1 fd_12_22.2.2.2.1 fd_12_22.2.2.2.2 rfl tw_6_65 dX12_drawsAt_67 ?_
  refine lv_iload_n hx hb dX12_drawsAt_70 rfl (lv_at hl 1 rfl) ?_
  obtain ⟨x2, e, hf⟩ := ob hf
  refine q_ldI e B hw dX12_drawsAt_71 ?_
  refine lv_if_le (tgt := 82) hx hb dX12_drawsAt_72 (by decide) (fun c3 => ?_) (fun c3 => ?_)
  · have hf := (if_pos c3).symm.trans hf
    refine lv_iconst (v := (-1)) hx hb dX12_drawsAt_82 (by decide) ?_
    obtain ⟨rfl, rfl⟩ := so2 hf
    exact q_iret B hw hz hc0 hr hlk dX12_drawsAt_83
  · have hf := (if_neg c3).symm.trans hf
    refine lv_iload_n hx hb dX12_drawsAt_75 rfl (lv_at hl 1 rfl) ?_
    obtain ⟨x4, e, hf⟩ := ob hf
    refine q_callS (As := [.int v2]) (rest := []) (st1 := [.int x4]) (c_X12_yearOf G e) B hw hz hc0 my_X12_yearOf mv_X12_yearOf tw_7_59 ⟨Nat.le_of_ble_eq_true rfl, Nat.le_of_ble_eq_true rfl⟩ ⟨Nat.zero_le _, Nat.zero_le _⟩ rfl hl.1 rfl rfl (Nat.le_of_ble_eq_true rfl) dX12_drawsAt_76 (fun H locs hw => ?_)
    refine lv_goto (tgt := 83) hx hb dX12_drawsAt_79 (by decide) ?_
    obtain ⟨rfl, rfl⟩ := so2 hf
    exact q_iret B hw hz hc0 hr hlk dX12_drawsAt_83
set_option maxHeartbeats 4000000 in
theorem w_X12_drawsAt_33 {p : Program} {l : Launch} {e : Env} {s : State} {m : MethodId} {args : Array Value} {below : List Frame} {meth : Method} {c : Code} {s0 : State} {E : Ev} {z : Sh} {n : Nat} {r : Int32} {h' : Hp} (G : Gl s0 E) (B : Bd p s0 s E m c cX12_drawsAt 3 RX12) (hz : s0.heap.size ≤ z.sz) (hc0 : s.heap.size + 0 = z.sz) (hr : meth.sig.returnType = (some .int)) (hlk : meth.locks = false) : ∀ (i : Nat), ∀ (h : Hp) (v0 : Nat) (v2 : Int32) (H : Heap) (locs : List Loc) (ls : Array Slot), Pw s0 s E z h H locs → lv_has ls 3 [(0, .ref v0), (2, .int v2)] → f_X12_drawsAt_33 n z i h v0 v2 = some (r, h') → W p l e (rmO 26 1320) s m args below meth c H locs 0 0 (Zt below s0 E z h' (some (.int r)) args s 0 0) (F0 m 33 ls []) := by
  have hx := B.1
  have hb := B.2.1
  intro i
  induction i with
  | zero =>
    intro h v0 v2 H locs ls hw hl hf
    have hf := (f_X12_drawsAt_33.eq_1 ..).symm.trans hf
    cases hf
  | succ i ih =>
    intro h v0 v2 H locs ls hw hl hf
    have hf := (f_X12_drawsAt_33.eq_2 ..).symm.trans hf
    refine lv_aload_n hx hb dX12_drawsAt_33 rfl (lv_at hl 0 rfl) ?_
    obtain ⟨a1, e, hf⟩ := ob hf
    refine q_getR e B hw fd_12_22.1 fd_12_22.2.1 fd_12_22.2.2.1 fd_12_22.2.2.2.1 fd_12_22.2.2.2.2 rfl tw_6_65 dX12_drawsAt_34 ?_
    refine lv_iload_n hx hb dX12_drawsAt_37 rfl (lv_at hl 1 rfl) ?_
    obtain ⟨x2, e, hf⟩ := ob hf
    refine q_ldI e B hw dX12_drawsAt_38 ?_
    refine lv_if_le (tgt := 66) hx hb dX12_drawsAt_39 (by decide) (fun c3 => ?_) (fun c3 => ?_)
    · have hf := (if_pos c3).symm.trans hf
      exact w_X12_drawsAt_66 G B hz hc0 hr hlk  h v0 v2 _ _ _ hw (lv_sub hl [0, 1] rfl) hf
    · have hf := (if_neg c3).symm.trans hf
      refine lv_aload_n hx hb dX12_drawsAt_42 rfl (lv_at hl 0 rfl) ?_
      refine lv_iload_n hx hb dX12_drawsAt_43 rfl (lv_at hl 1 rfl) ?_
      obtain ⟨⟨x4, h5⟩, e, hf⟩ := ob hf
      refine q_callV (As := [.int v2]) (rest := []) (st1 := [.int x4]) (c_X12_nextBest G e) B hw hz hc0 (k_X12_nextBest e) (by decide) (ci := 12) rfl rfl my_X12_nextBest mv_X12_nextBest tw_8_13 ⟨Nat.le_of_ble_eq_true rfl, Nat.le_of_ble_eq_true rfl⟩ ⟨Nat.zero_le _, Nat.zero_le _⟩ rfl hl.1 rfl rfl (Nat.le_of_ble_eq_true rfl) dX12_drawsAt_44 (fun H locs hw => ?_)
      refine lv_bipush (v := 9) hx hb dX12_drawsAt_47 (by decide) ?_
      refine lv_icmp_eq (tgt := 66) hx hb dX12_drawsAt_49 (by decide) (fun c6 => ?_) (fun c6 => ?_)
      · have hf := (if_pos c6).symm.trans hf
        exact w_X12_drawsAt_66 G B hz hc0 hr hlk  h5 v0 v2 _ _ _ hw (lv_sub hl [0, 1] rfl) hf
      · have hf := (if_neg c6).symm.trans hf
        refine lv_aload_n hx hb dX12_drawsAt_52 rfl (lv_at hl 0 rfl) ?_
        refine lv_iload_n hx hb dX12_drawsAt_53 rfl (lv_at hl 1 rfl) ?_
        refine lv_aload_n hx hb dX12_drawsAt_54 rfl (lv_at hl 0 rfl) ?_
        refine lv_iload_n hx hb dX12_drawsAt_55 rfl (lv_at hl 1 rfl) ?_
        obtain ⟨⟨x7, h8⟩, e, hf⟩ := ob hf
        refine q_callV (As := [.int v2]) (rest := [.int v2, .ref v0]) (st1 := [.int x7, .int v2, .ref v0]) (c_X12_nextBest G e) B hw hz hc0 (k_X12_nextBest e) (by decide) (ci := 12) rfl rfl my_X12_nextBest mv_X12_nextBest tw_8_13 ⟨Nat.le_of_ble_eq_true rfl, Nat.le_of_ble_eq_true rfl⟩ ⟨Nat.zero_le _, Nat.zero_le _⟩ rfl hl.1 rfl rfl (Nat.le_of_ble_eq_true rfl) dX12_drawsAt_56 (fun H locs hw => ?_)
        obtain ⟨⟨x9, h10⟩, e, hf⟩ := ob hf
        refine q_callV (As := [.int v2, .int x7]) (rest := []) (st1 := [.int x9]) (c_X12_doneTo G e) B hw hz hc0 (k_X12_doneTo e) (by decide) (ci := 12) rfl rfl my_X12_doneTo mv_X12_doneTo tw_8_17 ⟨Nat.le_of_ble_eq_true rfl, Nat.le_of_ble_eq_true rfl⟩ ⟨Nat.zero_le _, Nat.zero_le _⟩ rfl hl.1 rfl rfl (Nat.le_of_ble_eq_true rfl) dX12_drawsAt_59 (fun H locs hw => ?_)
        refine lv_istore_n (lv' := [(2, .int x9), (0, .ref v0)]) hx hb dX12_drawsAt_62 rfl hl (by decide) rfl (fun ls hl => ?_)
        refine lv_goto (tgt := 33) hx hb dX12_drawsAt_63 (by decide) ?_
        exact ih h10 v0 x9 _ _ _ hw (lv_sub hl [1, 0] rfl) hf
set_option maxHeartbeats 4000000 in
theorem c_X12_drawsAt {l : Launch} {s0 : State} {E : Ev} (G : Gl s0 E) {n : Nat} {z : Sh} {h : Hp} {v0 : Nat} {v1 : Int32} {r : Int32} {h' : Hp} (hf : f_X12_drawsAt n z h v0 v1 = some (r, h')) : Ct l s0 E yX12_drawsAt cX12_drawsAt 3 (some .int) 26 1320 [.ref v0, .int v1] z h h' (some (.int r)) := by
  refine Ct.of G (by decide) (Nat.le_of_ble_eq_true rfl) ?_
  intro p e s m below meth c ls B hw hz hc0 hr hlk hl
  have B : Bd p s0 s E m c cX12_drawsAt 3 RX12 := B
  have hx := B.1
  have hb := B.2.1
  have hl : lv_has ls 3 [(0, .ref v0), (1, .int v1)] := hl
  unfold f_X12_drawsAt at hf
  obtain ⟨_, hf⟩ := if_some hf
  refine lv_aload_n hx hb dX12_drawsAt_0 rfl (lv_at hl 0 rfl) ?_
  refine lv_iconst (v := 0) hx hb dX12_drawsAt_1 (by decide) ?_
  obtain ⟨h1, e, hf⟩ := ob hf
  refine q_putI e B hw fd_12_0.1 fd_12_0.2.1 fd_12_0.2.2.1 fd_12_0.2.2.2.1 fd_12_0.2.2.2.2 rfl rfl (tyX12_ok 0 (by decide)) tyX12 tyX12_ok nmX12 tw_6_43 dX12_drawsAt_2 (fun H locs hw => ?_)
  refine lv_aload_n hx hb dX12_drawsAt_5 rfl (lv_at hl 0 rfl) ?_
  refine lv_iload_n hx hb dX12_drawsAt_6 rfl (lv_at hl 1 rfl) ?_
  refine lv_i2l (v := (Int32.toInt64 v1)) hx hb dX12_drawsAt_7 rfl ?_
  obtain ⟨x2, e, hf⟩ := ob hf
  refine q_callV (As := [.long (Int32.toInt64 v1)]) (rest := []) (st1 := [.int x2]) (c_X12_isPerson G e) B hw hz hc0 (k_X12_isPerson e) (by decide) (ci := 12) rfl rfl my_X12_isPerson mv_X12_isPerson tw_7_35 ⟨Nat.le_of_ble_eq_true rfl, Nat.le_of_ble_eq_true rfl⟩ ⟨Nat.zero_le _, Nat.zero_le _⟩ rfl hl.1 rfl rfl (Nat.le_of_ble_eq_true rfl) dX12_drawsAt_8 (fun H locs hw => ?_)
  refine lv_if_ne (tgt := 17) hx hb dX12_drawsAt_11 (by decide) (fun c3 => ?_) (fun c3 => ?_)
  · have hf := (if_neg c3).symm.trans hf
    refine lv_aload_n hx hb dX12_drawsAt_17 rfl (lv_at hl 0 rfl) ?_
    refine lv_iload_n hx hb dX12_drawsAt_18 rfl (lv_at hl 1 rfl) ?_
    obtain ⟨h4, e, hf⟩ := ob hf
    refine q_callV (As := [.int v1]) (rest := []) (st1 := []) (c_X12_begins G e) B hw hz hc0 (k_X12_begins e) (by decide) (ci := 12) rfl rfl my_X12_begins mv_X12_begins tw_7_233 ⟨Nat.le_of_ble_eq_true rfl, Nat.le_of_ble_eq_true rfl⟩ ⟨Nat.zero_le _, Nat.zero_le _⟩ rfl hl.1 rfl rfl (Nat.le_of_ble_eq_true rfl) dX12_drawsAt_19 (fun H locs hw => ?_)
    refine lv_aload_n hx hb dX12_drawsAt_22 rfl (lv_at hl 0 rfl) ?_
    refine lv_iload_n hx hb dX12_drawsAt_23 rfl (lv_at hl 1 rfl) ?_
    obtain ⟨x5, e, hf⟩ := ob hf
    refine q_callV (As := [.int v1]) (rest := []) (st1 := [.int x5]) (c_X12_standNow G e) B hw hz hc0 (k_X12_standNow e) (by decide) (ci := 12) rfl rfl my_X12_standNow mv_X12_standNow tw_7_48 ⟨Nat.le_of_ble_eq_true rfl, Nat.le_of_ble_eq_true rfl⟩ ⟨Nat.zero_le _, Nat.zero_le _⟩ rfl hl.1 rfl rfl (Nat.le_of_ble_eq_true rfl) dX12_drawsAt_24 (fun H locs hw => ?_)
    refine lv_istore_n (lv' := [(2, .int x5), (0, .ref v0), (1, .int v1)]) hx hb dX12_drawsAt_27 rfl hl (by decide) rfl (fun ls hl => ?_)
    refine lv_aload_n hx hb dX12_drawsAt_28 rfl (lv_at hl 1 rfl) ?_
    refine lv_iload_n hx hb dX12_drawsAt_29 rfl (lv_at hl 0 rfl) ?_
    obtain ⟨h6, e, hf⟩ := ob hf
    refine q_callV (As := [.int x5]) (rest := []) (st1 := []) (c_X12_laysBest G e) B hw hz hc0 (k_X12_laysBest e) (by decide) (ci := 12) rfl rfl my_X12_laysBest mv_X12_laysBest tw_7_237 ⟨Nat.le_of_ble_eq_true rfl, Nat.le_of_ble_eq_true rfl⟩ ⟨Nat.zero_le _, Nat.zero_le _⟩ rfl hl.1 rfl rfl (Nat.le_of_ble_eq_true rfl) dX12_drawsAt_30 (fun H locs hw => ?_)
    exact w_X12_drawsAt_33 G B hz hc0 hr hlk  n h6 v0 x5 _ _ _ hw (lv_sub hl [1, 0] rfl) hf
  · have hf := (if_pos c3).symm.trans hf
    refine lv_ldc hx hb B.2.2.2.1 (B.w tw_7_39 rfl) dX12_drawsAt_14 ?_
    obtain ⟨rfl, rfl⟩ := so2 hf
    exact q_iret B hw hz hc0 hr hlk dX12_drawsAt_16
/-! SecondLifeModel.coursesFrom(I)J -/
def f_X12_coursesFrom_122 (n : Nat) (g_X12_coursesFrom : Sh → Hp → Nat → Int32 → Option (Int64 × Hp)) (z : Sh) (h : Hp) (v0 : Nat) (v1 : Int32) (v2 : Int64) : Option (Int64 × Hp) :=
  (gR z h 12 v0 23).bind fun a1 =>
  (stJ z h a1 v1 v2).bind fun h2 =>
  some (v2, h2)
def f_X12_coursesFrom_98 (n : Nat) (g_X12_coursesFrom : Sh → Hp → Nat → Int32 → Option (Int64 × Hp)) (z : Sh) (h : Hp) (v0 : Nat) (v1 : Int32) (v2 : Int64) : Option (Int64 × Hp) :=
  (f_X12_canDraw z h v0 v1).bind fun x1 =>
  if x1 = 0 then
    f_X12_coursesFrom_122 n g_X12_coursesFrom z h v0 v1 v2
  else
    (gI z h 12 v0 25).bind fun x3 =>
    (f_X12_drawnTo n z h v0 x3 v1).bind fun (x4, h5) =>
    (ckK z v0 12).bind fun _ =>
    (g_X12_coursesFrom z h5 v0 x4).bind fun (x6, h7) =>
    (some (v2 + x6)).bind fun x8 =>
    f_X12_coursesFrom_122 n g_X12_coursesFrom z h7 v0 v1 x8
def f_X12_coursesFrom_60 (n : Nat) (g_X12_coursesFrom : Sh → Hp → Nat → Int32 → Option (Int64 × Hp)) (z : Sh) : Nat → Hp → Nat → Int32 → Int64 → Int32 → Option (Int64 × Hp)
  | 0, _, _, _, _, _ => none
  | i + 1, h, v0, v1, v2, v4 =>
    (gR z h 12 v0 1).bind fun a1 =>
    (ldI z h a1 2).bind fun x2 =>
    if x2 ≤ v4 then
      f_X12_coursesFrom_98 n g_X12_coursesFrom z h v0 v1 v2
    else
      (f_X12_isOver z h v0 v1).bind fun x4 =>
      if x4 = 0 then
        (f_X12_livedTo z h v1 v4).bind fun x6 =>
        (ckK z v0 12).bind fun _ =>
        (g_X12_coursesFrom z h v0 x6).bind fun (x7, h8) =>
        (some (v2 + x7)).bind fun x9 =>
        (some (v4 + 1)).bind fun x10 =>
        (f_X12_coursesFrom_60 n g_X12_coursesFrom z i) h8 v0 v1 x9 x10
      else
        f_X12_coursesFrom_98 n g_X12_coursesFrom z h v0 v1 v2
def f_X12_coursesFrom_49 (n : Nat) (g_X12_coursesFrom : Sh → Hp → Nat → Int32 → Option (Int64 × Hp)) (z : Sh) (h : Hp) (v0 : Nat) (v1 : Int32) (u0 : Int64) (u1 : Int32) (u2 : Nat) : Option (Int64 × Hp) :=
  (stJ z h u2 u1 u0).bind fun h1 =>
  (gR z h1 12 v0 23).bind fun a2 =>
  (ldJ z h1 a2 v1).bind fun x3 =>
  f_X12_coursesFrom_60 n g_X12_coursesFrom z n h1 v0 v1 x3 0
def f_X12_coursesFrom_48 (n : Nat) (g_X12_coursesFrom : Sh → Hp → Nat → Int32 → Option (Int64 × Hp)) (z : Sh) (h : Hp) (v0 : Nat) (v1 : Int32) (u0 : Int32) (u1 : Nat) : Option (Int64 × Hp) :=
  f_X12_coursesFrom_49 n g_X12_coursesFrom z h v0 v1 0 u0 u1
def F_X12_coursesFrom (n : Nat) (g_X12_coursesFrom : Sh → Hp → Nat → Int32 → Option (Int64 × Hp)) (z : Sh) (h : Hp) (v0 : Nat) (v1 : Int32) : Option (Int64 × Hp) :=
  if z.K v0 = 12 then
    (gR z h 12 v0 24).bind fun a1 =>
    (ldZ z h a1 v1).bind fun x2 =>
    if x2 = 0 then
      (gR z h 12 v0 24).bind fun a4 =>
      (stZ z h a4 v1 1).bind fun h5 =>
      (gR z h5 12 v0 23).bind fun a6 =>
      (f_X12_isOver z h5 v0 v1).bind fun x7 =>
      if x7 = 0 then
        f_X12_coursesFrom_48 n g_X12_coursesFrom z h5 v0 v1 v1 a6
      else
        (f_X12_canDraw z h5 v0 v1).bind fun x9 =>
        if x9 = 0 then
          f_X12_coursesFrom_49 n g_X12_coursesFrom z h5 v0 v1 1 v1 a6
        else
          f_X12_coursesFrom_48 n g_X12_coursesFrom z h5 v0 v1 v1 a6
    else
      (gR z h 12 v0 23).bind fun a11 =>
      (ldJ z h a11 v1).bind fun x12 =>
      some (x12, h)
  else none
def rc_X12_coursesFrom (n : Nat) : Nat → Sh → Hp → Nat → Int32 → Option (Int64 × Hp)
  | 0 => (fun _ _ _ _ => none)
  | i + 1 => (F_X12_coursesFrom n (rc_X12_coursesFrom n i))
def f_X12_coursesFrom (n : Nat) (z : Sh) (h : Hp) (v0 : Nat) (v1 : Int32) : Option (Int64 × Hp) := (rc_X12_coursesFrom n 20) z h v0 v1
theorem k_X12_coursesFrom {n : Nat} {z : Sh} {h : Hp} {v0 : Nat} {v1 : Int32} {w : Int64 × Hp} (hf : f_X12_coursesFrom n z h v0 v1 = some w) : z.K v0 = 12 := by
  have hf : F_X12_coursesFrom n (rc_X12_coursesFrom n 19) z h v0 v1 = some w := hf
  unfold F_X12_coursesFrom at hf
  exact (if_some hf).1
set_option maxHeartbeats 4000000 in
theorem w_X12_coursesFrom_122 {p : Program} {l : Launch} {e : Env} {s : State} {m : MethodId} {args : Array Value} {below : List Frame} {meth : Method} {c : Code} {s0 : State} {E : Ev} {z : Sh} {d : Nat} {g_X12_coursesFrom : Sh → Hp → Nat → Int32 → Option (Int64 × Hp)} {n : Nat} {r : Int64} {h' : Hp} (G : Gl s0 E) (B : Bd p s0 s E m c cX12_coursesFrom 5 RX12) (hz : s0.heap.size ≤ z.sz) (hc0 : s.heap.size + 0 = z.sz) (hr : meth.sig.returnType = (some .long)) (hlk : meth.locks = false) (H_X12_coursesFrom : ∀ {z : Sh} {h : Hp} {v0 : Nat} {v1 : Int32} {r : Int64} {h' : Hp}, g_X12_coursesFrom z h v0 v1 = some (r, h') → Ct l s0 E yX12_coursesFrom cX12_coursesFrom 5 (some .long) (5 + d) (94 + 60 * d) [.ref v0, .int v1] z h h' (some (.long r))) : ∀ (h : Hp) (v0 : Nat) (v1 : Int32) (v2 : Int64) (H : Heap) (locs : List Loc) (ls : Array Slot), Pw s0 s E z h H locs → lv_has ls 5 [(0, .ref v0), (1, .int v1), (2, .long v2)] → f_X12_coursesFrom_122 n g_X12_coursesFrom z h v0 v1 v2 = some (r, h') → W p l e (rmO (5 + (d + 1)) (94 + 60 * (d + 1))) s m args below meth c H locs 0 0 (Zt below s0 E z h' (some (.long r)) args s 0 0) (F0 m 122 ls []) := by
  have hx := B.1
  have hb := B.2.1
  intro h v0 v1 v2 H locs ls hw hl hf
  unfold f_X12_coursesFrom_122 at hf
  refine lv_aload_n hx hb dX12_coursesFrom_122 rfl (lv_at hl 0 rfl) ?_
  obtain ⟨a1, e, hf⟩ := ob hf
  refine q_getR e B hw fd_12_23.1 fd_12_23.2.1 fd_12_23.2.2.1 fd_12_23.2.2.2.1 fd_12_23.2.2.2.2 rfl tw_6_66 dX12_coursesFrom_123 ?_
  refine lv_iload_n hx hb dX12_coursesFrom_126 rfl (lv_at hl 1 rfl) ?_
  refine lv_lload_n hx hb dX12_coursesFrom_127 rfl (lv_at hl 2 rfl) ?_
  obtain ⟨h2, e, hf⟩ := ob hf
  refine q_stJ e B hw dX12_coursesFrom_128 (fun H locs hw => ?_)
  refine lv_lload_n hx hb dX12_coursesFrom_129 rfl (lv_at hl 2 rfl) ?_
  obtain ⟨rfl, rfl⟩ := so2 hf
  exact q_lret B hw hz hc0 hr hlk dX12_coursesFrom_130
set_option maxHeartbeats 4000000 in
theorem w_X12_coursesFrom_98 {p : Program} {l : Launch} {e : Env} {s : State} {m : MethodId} {args : Array Value} {below : List Frame} {meth : Method} {c : Code} {s0 : State} {E : Ev} {z : Sh} {d : Nat} {g_X12_coursesFrom : Sh → Hp → Nat → Int32 → Option (Int64 × Hp)} {n : Nat} {r : Int64} {h' : Hp} (G : Gl s0 E) (B : Bd p s0 s E m c cX12_coursesFrom 5 RX12) (hz : s0.heap.size ≤ z.sz) (hc0 : s.heap.size + 0 = z.sz) (hr : meth.sig.returnType = (some .long)) (hlk : meth.locks = false) (H_X12_coursesFrom : ∀ {z : Sh} {h : Hp} {v0 : Nat} {v1 : Int32} {r : Int64} {h' : Hp}, g_X12_coursesFrom z h v0 v1 = some (r, h') → Ct l s0 E yX12_coursesFrom cX12_coursesFrom 5 (some .long) (5 + d) (94 + 60 * d) [.ref v0, .int v1] z h h' (some (.long r))) : ∀ (h : Hp) (v0 : Nat) (v1 : Int32) (v2 : Int64) (H : Heap) (locs : List Loc) (ls : Array Slot), Pw s0 s E z h H locs → lv_has ls 5 [(0, .ref v0), (1, .int v1), (2, .long v2)] → f_X12_coursesFrom_98 n g_X12_coursesFrom z h v0 v1 v2 = some (r, h') → W p l e (rmO (5 + (d + 1)) (94 + 60 * (d + 1))) s m args below meth c H locs 0 0 (Zt below s0 E z h' (some (.long r)) args s 0 0) (F0 m 98 ls []) := by
  have hx := B.1
  have hb := B.2.1
  intro h v0 v1 v2 H locs ls hw hl hf
  unfold f_X12_coursesFrom_98 at hf
  refine lv_aload_n hx hb dX12_coursesFrom_98 rfl (lv_at hl 0 rfl) ?_
  refine lv_iload_n hx hb dX12_coursesFrom_99 rfl (lv_at hl 1 rfl) ?_
  obtain ⟨x1, e, hf⟩ := ob hf
  refine q_callV (As := [.int v1]) (rest := []) (st1 := [.int x1]) (c_X12_canDraw G e) B hw hz hc0 (k_X12_canDraw e) (by decide) (ci := 12) rfl rfl my_X12_canDraw mv_X12_canDraw tw_8_1 ⟨by simp only [rmO, rmA]; omega, by simp only [rmO, rmA]; omega⟩ ⟨Nat.zero_le _, Nat.zero_le _⟩ rfl hl.1 rfl rfl (Nat.le_of_ble_eq_true rfl) dX12_coursesFrom_100 (fun H locs hw => ?_)
  refine lv_if_eq (tgt := 122) hx hb dX12_coursesFrom_103 (by decide) (fun c2 => ?_) (fun c2 => ?_)
  · have hf := (if_pos c2).symm.trans hf
    exact w_X12_coursesFrom_122 G B hz hc0 hr hlk H_X12_coursesFrom  h v0 v1 v2 _ _ _ hw (lv_sub hl [0, 1, 2] rfl) hf
  · have hf := (if_neg c2).symm.trans hf
    refine lv_lload_n hx hb dX12_coursesFrom_106 rfl (lv_at hl 2 rfl) ?_
    refine lv_aload_n hx hb dX12_coursesFrom_107 rfl (lv_at hl 0 rfl) ?_
    refine lv_aload_n hx hb dX12_coursesFrom_108 rfl (lv_at hl 0 rfl) ?_
    refine lv_aload_n hx hb dX12_coursesFrom_109 rfl (lv_at hl 0 rfl) ?_
    obtain ⟨x3, e, hf⟩ := ob hf
    refine q_getI e B hw fd_12_25.1 fd_12_25.2.1 fd_12_25.2.2.1 fd_12_25.2.2.2.1 fd_12_25.2.2.2.2 rfl tw_6_68 dX12_coursesFrom_110 ?_
    refine lv_iload_n hx hb dX12_coursesFrom_113 rfl (lv_at hl 1 rfl) ?_
    obtain ⟨⟨x4, h5⟩, e, hf⟩ := ob hf
    refine q_callV (As := [.int x3, .int v1]) (rest := [.ref v0, .long v2]) (st1 := [.int x4, .ref v0, .long v2]) (c_X12_drawnTo G e) B hw hz hc0 (k_X12_drawnTo e) (by decide) (ci := 12) rfl rfl my_X12_drawnTo mv_X12_drawnTo tw_7_135 ⟨by simp only [rmO, rmA]; omega, by simp only [rmO, rmA]; omega⟩ ⟨Nat.zero_le _, Nat.zero_le _⟩ rfl hl.1 rfl rfl (Nat.le_of_ble_eq_true rfl) dX12_coursesFrom_114 (fun H locs hw => ?_)
    obtain ⟨_, eK, hf⟩ := ob hf
    obtain ⟨⟨x6, h7⟩, e, hf⟩ := ob hf
    refine q_callV (As := [.int x4]) (rest := [.long v2]) (st1 := [.long x6, .long v2]) (H_X12_coursesFrom e) B hw hz hc0 ((if_some eK).1) (by decide) (ci := 12) rfl rfl my_X12_coursesFrom mv_X12_coursesFrom tw_8_30 ⟨by simp only [rmO, rmA]; omega, by simp only [rmO, rmA]; omega⟩ ⟨Nat.zero_le _, Nat.zero_le _⟩ rfl hl.1 rfl rfl (Nat.le_of_ble_eq_true rfl) dX12_coursesFrom_117 (fun H locs hw => ?_)
    refine lv_ladd hx hb dX12_coursesFrom_120 ?_
    obtain ⟨x8, e, hf⟩ := ob hf
    refine q_nmJ e ?_
    refine lv_lstore_n (lv' := [(2, .long x8), (0, .ref v0), (1, .int v1)]) hx hb dX12_coursesFrom_121 rfl hl (by decide) rfl (fun ls hl => ?_)
    exact w_X12_coursesFrom_122 G B hz hc0 hr hlk H_X12_coursesFrom  h7 v0 v1 x8 _ _ _ hw (lv_sub hl [1, 2, 0] rfl) hf
set_option maxHeartbeats 4000000 in
theorem w_X12_coursesFrom_60 {p : Program} {l : Launch} {e : Env} {s : State} {m : MethodId} {args : Array Value} {below : List Frame} {meth : Method} {c : Code} {s0 : State} {E : Ev} {z : Sh} {d : Nat} {g_X12_coursesFrom : Sh → Hp → Nat → Int32 → Option (Int64 × Hp)} {n : Nat} {r : Int64} {h' : Hp} (G : Gl s0 E) (B : Bd p s0 s E m c cX12_coursesFrom 5 RX12) (hz : s0.heap.size ≤ z.sz) (hc0 : s.heap.size + 0 = z.sz) (hr : meth.sig.returnType = (some .long)) (hlk : meth.locks = false) (H_X12_coursesFrom : ∀ {z : Sh} {h : Hp} {v0 : Nat} {v1 : Int32} {r : Int64} {h' : Hp}, g_X12_coursesFrom z h v0 v1 = some (r, h') → Ct l s0 E yX12_coursesFrom cX12_coursesFrom 5 (some .long) (5 + d) (94 + 60 * d) [.ref v0, .int v1] z h h' (some (.long r))) : ∀ (i : Nat), ∀ (h : Hp) (v0 : Nat) (v1 : Int32) (v2 : Int64) (v4 : Int32) (H : Heap) (locs : List Loc) (ls : Array Slot), Pw s0 s E z h H locs → lv_has ls 5 [(0, .ref v0), (1, .int v1), (2, .long v2), (4, .int v4)] → f_X12_coursesFrom_60 n g_X12_coursesFrom z i h v0 v1 v2 v4 = some (r, h') → W p l e (rmO (5 + (d + 1)) (94 + 60 * (d + 1))) s m args below meth c H locs 0 0 (Zt below s0 E z h' (some (.long r)) args s 0 0) (F0 m 60 ls []) := by
  have hx := B.1
  have hb := B.2.1
  intro i
  induction i with
  | zero =>
    intro h v0 v1 v2 v4 H locs ls hw hl hf
    have hf := (f_X12_coursesFrom_60.eq_1 ..).symm.trans hf
    cases hf
  | succ i ih =>
    intro h v0 v1 v2 v4 H locs ls hw hl hf
    have hf := (f_X12_coursesFrom_60.eq_2 ..).symm.trans hf
    refine lv_iload hx hb dX12_coursesFrom_60 (lv_at hl 3 rfl) ?_
    refine lv_aload_n hx hb dX12_coursesFrom_62 rfl (lv_at hl 0 rfl) ?_
    obtain ⟨a1, e, hf⟩ := ob hf
    refine q_getR e B hw fd_12_1.1 fd_12_1.2.1 fd_12_1.2.2.1 fd_12_1.2.2.2.1 fd_12_1.2.2.2.2 rfl tw_6_44 dX12_coursesFrom_63 ?_
    refine lv_iconst (v := 2) hx hb dX12_coursesFrom_66 (by decide) ?_
    obtain ⟨x2, e, hf⟩ := ob hf
    refine q_ldI e B hw dX12_coursesFrom_67 ?_
    refine lv_icmp_ge (tgt := 98) hx hb dX12_coursesFrom_68 (by decide) (fun c3 => ?_) (fun c3 => ?_)
    · have hf := (if_pos c3).symm.trans hf
      exact w_X12_coursesFrom_98 G B hz hc0 hr hlk H_X12_coursesFrom  h v0 v1 v2 _ _ _ hw (lv_sub hl [0, 1, 2] rfl) hf
    · have hf := (if_neg c3).symm.trans hf
      refine lv_aload_n hx hb dX12_coursesFrom_71 rfl (lv_at hl 0 rfl) ?_
      refine lv_iload_n hx hb dX12_coursesFrom_72 rfl (lv_at hl 1 rfl) ?_
      obtain ⟨x4, e, hf⟩ := ob hf
      refine q_callV (As := [.int v1]) (rest := []) (st1 := [.int x4]) (c_X12_isOver G e) B hw hz hc0 (k_X12_isOver e) (by decide) (ci := 12) rfl rfl my_X12_isOver mv_X12_isOver tw_7_55 ⟨by simp only [rmO, rmA]; omega, by simp only [rmO, rmA]; omega⟩ ⟨Nat.zero_le _, Nat.zero_le _⟩ rfl hl.1 rfl rfl (Nat.le_of_ble_eq_true rfl) dX12_coursesFrom_73 (fun H locs hw => ?_)
      refine lv_if_ne (tgt := 98) hx hb dX12_coursesFrom_76 (by decide) (fun c5 => ?_) (fun c5 => ?_)
      · have hf := (if_neg c5).symm.trans hf
        exact w_X12_coursesFrom_98 G B hz hc0 hr hlk H_X12_coursesFrom  h v0 v1 v2 _ _ _ hw (lv_sub hl [0, 1, 2] rfl) hf
      · have hf := (if_pos c5).symm.trans hf
        refine lv_lload_n hx hb dX12_coursesFrom_79 rfl (lv_at hl 2 rfl) ?_
        refine lv_aload_n hx hb dX12_coursesFrom_80 rfl (lv_at hl 0 rfl) ?_
        refine lv_iload_n hx hb dX12_coursesFrom_81 rfl (lv_at hl 1 rfl) ?_
        refine lv_iload hx hb dX12_coursesFrom_82 (lv_at hl 3 rfl) ?_
        obtain ⟨x6, e, hf⟩ := ob hf
        refine q_callS (As := [.int v1, .int v4]) (rest := [.ref v0, .long v2]) (st1 := [.int x6, .ref v0, .long v2]) (c_X12_livedTo G e) B hw hz hc0 my_X12_livedTo mv_X12_livedTo tw_7_112 ⟨by simp only [rmO, rmA]; omega, by simp only [rmO, rmA]; omega⟩ ⟨Nat.zero_le _, Nat.zero_le _⟩ rfl hl.1 rfl rfl (Nat.le_of_ble_eq_true rfl) dX12_coursesFrom_84 (fun H locs hw => ?_)
        obtain ⟨_, eK, hf⟩ := ob hf
        obtain ⟨⟨x7, h8⟩, e, hf⟩ := ob hf
        refine q_callV (As := [.int x6]) (rest := [.long v2]) (st1 := [.long x7, .long v2]) (H_X12_coursesFrom e) B hw hz hc0 ((if_some eK).1) (by decide) (ci := 12) rfl rfl my_X12_coursesFrom mv_X12_coursesFrom tw_8_30 ⟨by simp only [rmO, rmA]; omega, by simp only [rmO, rmA]; omega⟩ ⟨Nat.zero_le _, Nat.zero_le _⟩ rfl hl.1 rfl rfl (Nat.le_of_ble_eq_true rfl) dX12_coursesFrom_87 (fun H locs hw => ?_)
        refine lv_ladd hx hb dX12_coursesFrom_90 ?_
        obtain ⟨x9, e, hf⟩ := ob hf
        refine q_nmJ e ?_
        refine lv_lstore_n (lv' := [(2, .long x9), (0, .ref v0), (1, .int v1), (4, .int v4)]) hx hb dX12_coursesFrom_91 rfl hl (by decide) rfl (fun ls hl => ?_)
        obtain ⟨x10, e, hf⟩ := ob hf
        refine lv_iinc (v := x10) (lv' := [(4, .int x10), (2, .long x9), (0, .ref v0), (1, .int v1)]) hx hb dX12_coursesFrom_92 hl (k := 3) rfl (Option.some.inj e) (by decide) rfl (fun ls hl => ?_)
        refine lv_goto (tgt := 60) hx hb dX12_coursesFrom_95 (by decide) ?_
        exact ih h8 v0 v1 x9 x10 _ _ _ hw (lv_sub hl [2, 3, 1, 0] rfl) hf
set_option maxHeartbeats 4000000 in
theorem w_X12_coursesFrom_49 {p : Program} {l : Launch} {e : Env} {s : State} {m : MethodId} {args : Array Value} {below : List Frame} {meth : Method} {c : Code} {s0 : State} {E : Ev} {z : Sh} {d : Nat} {g_X12_coursesFrom : Sh → Hp → Nat → Int32 → Option (Int64 × Hp)} {n : Nat} {r : Int64} {h' : Hp} (G : Gl s0 E) (B : Bd p s0 s E m c cX12_coursesFrom 5 RX12) (hz : s0.heap.size ≤ z.sz) (hc0 : s.heap.size + 0 = z.sz) (hr : meth.sig.returnType = (some .long)) (hlk : meth.locks = false) (H_X12_coursesFrom : ∀ {z : Sh} {h : Hp} {v0 : Nat} {v1 : Int32} {r : Int64} {h' : Hp}, g_X12_coursesFrom z h v0 v1 = some (r, h') → Ct l s0 E yX12_coursesFrom cX12_coursesFrom 5 (some .long) (5 + d) (94 + 60 * d) [.ref v0, .int v1] z h h' (some (.long r))) : ∀ (h : Hp) (v0 : Nat) (v1 : Int32) (u0 : Int64) (u1 : Int32) (u2 : Nat) (H : Heap) (locs : List Loc) (ls : Array Slot), Pw s0 s E z h H locs → lv_has ls 5 [(0, .ref v0), (1, .int v1)] → f_X12_coursesFrom_49 n g_X12_coursesFrom z h v0 v1 u0 u1 u2 = some (r, h') → W p l e (rmO (5 + (d + 1)) (94 + 60 * (d + 1))) s m args below meth c H locs 0 0 (Zt below s0 E z h' (some (.long r)) args s 0 0) (F0 m 49 ls [.long u0, .int u1, .ref u2]) := by
  have hx := B.1
  have hb := B.2.1
  intro h v0 v1 u0 u1 u2 H locs ls hw hl hf
  unfold f_X12_coursesFrom_49 at hf
  obtain ⟨h1, e, hf⟩ := ob hf
  refine q_stJ e B hw dX12_coursesFrom_49 (fun H locs hw => ?_)
  refine lv_aload_n hx hb dX12_coursesFrom_50 rfl (lv_at hl 0 rfl) ?_
  obtain ⟨a2, e, hf⟩ := ob hf
  refine q_getR e B hw fd_12_23.1 fd_12_23.2.1 fd_12_23.2.2.1 fd_12_23.2.2.2.1 fd_12_23.2.2.2.2 rfl tw_6_66 dX12_coursesFrom_51 ?_
  refine lv_iload_n hx hb dX12_coursesFrom_54 rfl (lv_at hl 1 rfl) ?_
  obtain ⟨x3, e, hf⟩ := ob hf
  refine q_ldJ e B hw dX12_coursesFrom_55 ?_
  refine lv_lstore_n (lv' := [(2, .long x3), (0, .ref v0), (1, .int v1)]) hx hb dX12_coursesFrom_56 rfl hl (by decide) rfl (fun ls hl => ?_)
  refine lv_iconst (v := 0) hx hb dX12_coursesFrom_57 (by decide) ?_
  refine lv_istore (lv' := [(4, .int 0), (2, .long x3), (0, .ref v0), (1, .int v1)]) hx hb dX12_coursesFrom_58 hl (by decide) rfl (fun ls hl => ?_)
  exact w_X12_coursesFrom_60 G B hz hc0 hr hlk H_X12_coursesFrom  n h1 v0 v1 x3 0 _ _ _ hw (lv_sub hl [2, 3, 1, 0] rfl) hf
set_option maxHeartbeats 4000000 in
theorem w_X12_coursesFrom_48 {p : Program} {l : Launch} {e : Env} {s : State} {m : MethodId} {args : Array Value} {below : List Frame} {meth : Method} {c : Code} {s0 : State} {E : Ev} {z : Sh} {d : Nat} {g_X12_coursesFrom : Sh → Hp → Nat → Int32 → Option (Int64 × Hp)} {n : Nat} {r : Int64} {h' : Hp} (G : Gl s0 E) (B : Bd p s0 s E m c cX12_coursesFrom 5 RX12) (hz : s0.heap.size ≤ z.sz) (hc0 : s.heap.size + 0 = z.sz) (hr : meth.sig.returnType = (some .long)) (hlk : meth.locks = false) (H_X12_coursesFrom : ∀ {z : Sh} {h : Hp} {v0 : Nat} {v1 : Int32} {r : Int64} {h' : Hp}, g_X12_coursesFrom z h v0 v1 = some (r, h') → Ct l s0 E yX12_coursesFrom cX12_coursesFrom 5 (some .long) (5 + d) (94 + 60 * d) [.ref v0, .int v1] z h h' (some (.long r))) : ∀ (h : Hp) (v0 : Nat) (v1 : Int32) (u0 : Int32) (u1 : Nat) (H : Heap) (locs : List Loc) (ls : Array Slot), Pw s0 s E z h H locs → lv_has ls 5 [(0, .ref v0), (1, .int v1)] → f_X12_coursesFrom_48 n g_X12_coursesFrom z h v0 v1 u0 u1 = some (r, h') → W p l e (rmO (5 + (d + 1)) (94 + 60 * (d + 1))) s m args below meth c H locs 0 0 (Zt below s0 E z h' (some (.long r)) args s 0 0) (F0 m 48 ls [.int u0, .ref u1]) := by
  have hx := B.1
  have hb := B.2.1
  intro h v0 v1 u0 u1 H locs ls hw hl hf
  unfold f_X12_coursesFrom_48 at hf
  refine lv_lconst (v := 0) hx hb dX12_coursesFrom_48 (by decide) ?_
  exact w_X12_coursesFrom_49 G B hz hc0 hr hlk H_X12_coursesFrom  h v0 v1 0 u0 u1 _ _ _ hw (lv_sub hl [0, 1] rfl) hf
set_option maxHeartbeats 4000000 in
theorem co_X12_coursesFrom {l : Launch} {s0 : State} {E : Ev} (G : Gl s0 E) {n : Nat} {d : Nat} {g_X12_coursesFrom : Sh → Hp → Nat → Int32 → Option (Int64 × Hp)} (H_X12_coursesFrom : ∀ {z : Sh} {h : Hp} {v0 : Nat} {v1 : Int32} {r : Int64} {h' : Hp}, g_X12_coursesFrom z h v0 v1 = some (r, h') → Ct l s0 E yX12_coursesFrom cX12_coursesFrom 5 (some .long) (5 + d) (94 + 60 * d) [.ref v0, .int v1] z h h' (some (.long r))) {z : Sh} {h : Hp} {v0 : Nat} {v1 : Int32} {r : Int64} {h' : Hp} (hf : F_X12_coursesFrom n g_X12_coursesFrom z h v0 v1 = some (r, h')) : Ct l s0 E yX12_coursesFrom cX12_coursesFrom 5 (some .long) (5 + (d + 1)) (94 + 60 * (d + 1)) [.ref v0, .int v1] z h h' (some (.long r)) := by
  refine Ct.of G (by decide) (Nat.le_of_ble_eq_true rfl) ?_
  intro p e s m below meth c ls B hw hz hc0 hr hlk hl
  have B : Bd p s0 s E m c cX12_coursesFrom 5 RX12 := B
  have hx := B.1
  have hb := B.2.1
  have hl : lv_has ls 5 [(0, .ref v0), (1, .int v1)] := hl
  unfold F_X12_coursesFrom at hf
  obtain ⟨_, hf⟩ := if_some hf
  refine lv_aload_n hx hb dX12_coursesFrom_0 rfl (lv_at hl 0 rfl) ?_
  obtain ⟨a1, e, hf⟩ := ob hf
  refine q_getR e B hw fd_12_24.1 fd_12_24.2.1 fd_12_24.2.2.1 fd_12_24.2.2.2.1 fd_12_24.2.2.2.2 rfl tw_6_67 dX12_coursesFrom_1 ?_
  refine lv_iload_n hx hb dX12_coursesFrom_4 rfl (lv_at hl 1 rfl) ?_
  obtain ⟨x2, e, hf⟩ := ob hf
  refine q_ldZ e B hw dX12_coursesFrom_5 ?_
  refine lv_if_eq (tgt := 16) hx hb dX12_coursesFrom_6 (by decide) (fun c3 => ?_) (fun c3 => ?_)
  · have hf := (if_pos c3).symm.trans hf
    refine lv_aload_n hx hb dX12_coursesFrom_16 rfl (lv_at hl 0 rfl) ?_
    obtain ⟨a4, e, hf⟩ := ob hf
    refine q_getR e B hw fd_12_24.1 fd_12_24.2.1 fd_12_24.2.2.1 fd_12_24.2.2.2.1 fd_12_24.2.2.2.2 rfl tw_6_67 dX12_coursesFrom_17 ?_
    refine lv_iload_n hx hb dX12_coursesFrom_20 rfl (lv_at hl 1 rfl) ?_
    refine lv_iconst (v := 1) hx hb dX12_coursesFrom_21 (by decide) ?_
    obtain ⟨h5, e, hf⟩ := ob hf
    refine q_stZ e B hw dX12_coursesFrom_22 (fun H locs hw => ?_)
    refine lv_aload_n hx hb dX12_coursesFrom_23 rfl (lv_at hl 0 rfl) ?_
    obtain ⟨a6, e, hf⟩ := ob hf
    refine q_getR e B hw fd_12_23.1 fd_12_23.2.1 fd_12_23.2.2.1 fd_12_23.2.2.2.1 fd_12_23.2.2.2.2 rfl tw_6_66 dX12_coursesFrom_24 ?_
    refine lv_iload_n hx hb dX12_coursesFrom_27 rfl (lv_at hl 1 rfl) ?_
    refine lv_aload_n hx hb dX12_coursesFrom_28 rfl (lv_at hl 0 rfl) ?_
    refine lv_iload_n hx hb dX12_coursesFrom_29 rfl (lv_at hl 1 rfl) ?_
    obtain ⟨x7, e, hf⟩ := ob hf
    refine q_callV (As := [.int v1]) (rest := [.int v1, .ref a6]) (st1 := [.int x7, .int v1, .ref a6]) (c_X12_isOver G e) B hw hz hc0 (k_X12_isOver e) (by decide) (ci := 12) rfl rfl my_X12_isOver mv_X12_isOver tw_7_55 ⟨by simp only [rmO, rmA]; omega, by simp only [rmO, rmA]; omega⟩ ⟨Nat.zero_le _, Nat.zero_le _⟩ rfl hl.1 rfl rfl (Nat.le_of_ble_eq_true rfl) dX12_coursesFrom_30 (fun H locs hw => ?_)
    refine lv_if_eq (tgt := 48) hx hb dX12_coursesFrom_33 (by decide) (fun c8 => ?_) (fun c8 => ?_)
    · have hf := (if_pos c8).symm.trans hf
      exact w_X12_coursesFrom_48 G B hz hc0 hr hlk H_X12_coursesFrom  h5 v0 v1 v1 a6 _ _ _ hw (lv_sub hl [0, 1] rfl) hf
    · have hf := (if_neg c8).symm.trans hf
      refine lv_aload_n hx hb dX12_coursesFrom_36 rfl (lv_at hl 0 rfl) ?_
      refine lv_iload_n hx hb dX12_coursesFrom_37 rfl (lv_at hl 1 rfl) ?_
      obtain ⟨x9, e, hf⟩ := ob hf
      refine q_callV (As := [.int v1]) (rest := [.int v1, .ref a6]) (st1 := [.int x9, .int v1, .ref a6]) (c_X12_canDraw G e) B hw hz hc0 (k_X12_canDraw e) (by decide) (ci := 12) rfl rfl my_X12_canDraw mv_X12_canDraw tw_8_1 ⟨by simp only [rmO, rmA]; omega, by simp only [rmO, rmA]; omega⟩ ⟨Nat.zero_le _, Nat.zero_le _⟩ rfl hl.1 rfl rfl (Nat.le_of_ble_eq_true rfl) dX12_coursesFrom_38 (fun H locs hw => ?_)
      refine lv_if_ne (tgt := 48) hx hb dX12_coursesFrom_41 (by decide) (fun c10 => ?_) (fun c10 => ?_)
      · have hf := (if_neg c10).symm.trans hf
        exact w_X12_coursesFrom_48 G B hz hc0 hr hlk H_X12_coursesFrom  h5 v0 v1 v1 a6 _ _ _ hw (lv_sub hl [0, 1] rfl) hf
      · have hf := (if_pos c10).symm.trans hf
        refine lv_lconst (v := 1) hx hb dX12_coursesFrom_44 (by decide) ?_
        refine lv_goto (tgt := 49) hx hb dX12_coursesFrom_45 (by decide) ?_
        exact w_X12_coursesFrom_49 G B hz hc0 hr hlk H_X12_coursesFrom  h5 v0 v1 1 v1 a6 _ _ _ hw (lv_sub hl [0, 1] rfl) hf
  · have hf := (if_neg c3).symm.trans hf
    refine lv_aload_n hx hb dX12_coursesFrom_9 rfl (lv_at hl 0 rfl) ?_
    obtain ⟨a11, e, hf⟩ := ob hf
    refine q_getR e B hw fd_12_23.1 fd_12_23.2.1 fd_12_23.2.2.1 fd_12_23.2.2.2.1 fd_12_23.2.2.2.2 rfl tw_6_66 dX12_coursesFrom_10 ?_
    refine lv_iload_n hx hb dX12_coursesFrom_13 rfl (lv_at hl 1 rfl) ?_
    obtain ⟨x12, e, hf⟩ := ob hf
    refine q_ldJ e B hw dX12_coursesFrom_14 ?_
    obtain ⟨rfl, rfl⟩ := so2 hf
    exact q_lret B hw hz hc0 hr hlk dX12_coursesFrom_15
set_option maxHeartbeats 4000000 in
theorem cg_X12_coursesFrom {l : Launch} {s0 : State} {E : Ev} (G : Gl s0 E) {n : Nat} : ∀ d : Nat, (∀ {z : Sh} {h : Hp} {v0 : Nat} {v1 : Int32} {r : Int64} {h' : Hp}, (rc_X12_coursesFrom n d) z h v0 v1 = some (r, h') → Ct l s0 E yX12_coursesFrom cX12_coursesFrom 5 (some .long) (5 + d) (94 + 60 * d) [.ref v0, .int v1] z h h' (some (.long r))) := by
  intro d
  induction d with
  | zero => exact fun hf => by cases hf
  | succ d ih => exact fun hf => co_X12_coursesFrom (n := n) G (fun hf => ih hf) hf
theorem c_X12_coursesFrom {l : Launch} {s0 : State} {E : Ev} (G : Gl s0 E) {n : Nat} {z : Sh} {h : Hp} {v0 : Nat} {v1 : Int32} {r : Int64} {h' : Hp} (hf : f_X12_coursesFrom n z h v0 v1 = some (r, h')) : Ct l s0 E yX12_coursesFrom cX12_coursesFrom 5 (some .long) 25 1294 [.ref v0, .int v1] z h h' (some (.long r)) := (cg_X12_coursesFrom G 20) hf
/-! SecondLifeModel.courses(I)J -/
def f_X12_courses (n : Nat) (z : Sh) (h : Hp) (v0 : Nat) (v1 : Int32) : Option (Int64 × Hp) :=
  if z.K v0 = 12 then
    (pI z h 12 v0 0 0).bind fun h1 =>
    (f_X12_isPerson z h1 v0 (Int32.toInt64 v1)).bind fun x2 =>
    if x2 = 0 then
      some (((-99000002) : Int64), h1)
    else
      (f_X12_begins n z h1 v0 v1).bind fun h4 =>
      (f_X12_standNow z h4 v0 v1).bind fun x5 =>
      (f_X12_coursesFrom n z h4 v0 x5).bind fun (x6, h7) =>
      some (x6, h7)
  else none
theorem k_X12_courses {n : Nat} {z : Sh} {h : Hp} {v0 : Nat} {v1 : Int32} {w : Int64 × Hp} (hf : f_X12_courses n z h v0 v1 = some w) : z.K v0 = 12 := by
  unfold f_X12_courses at hf
  exact (if_some hf).1
set_option maxHeartbeats 4000000 in
theorem c_X12_courses {l : Launch} {s0 : State} {E : Ev} (G : Gl s0 E) {n : Nat} {z : Sh} {h : Hp} {v0 : Nat} {v1 : Int32} {r : Int64} {h' : Hp} (hf : f_X12_courses n z h v0 v1 = some (r, h')) : Ct l s0 E yX12_courses cX12_courses 2 (some .long) 26 1318 [.ref v0, .int v1] z h h' (some (.long r)) := by
  refine Ct.of G (by decide) (Nat.le_of_ble_eq_true rfl) ?_
  intro p e s m below meth c ls B hw hz hc0 hr hlk hl
  have B : Bd p s0 s E m c cX12_courses 2 RX12 := B
  have hx := B.1
  have hb := B.2.1
  have hl : lv_has ls 2 [(0, .ref v0), (1, .int v1)] := hl
  unfold f_X12_courses at hf
  obtain ⟨_, hf⟩ := if_some hf
  refine lv_aload_n hx hb dX12_courses_0 rfl (lv_at hl 0 rfl) ?_
  refine lv_iconst (v := 0) hx hb dX12_courses_1 (by decide) ?_
  obtain ⟨h1, e, hf⟩ := ob hf
  refine q_putI e B hw fd_12_0.1 fd_12_0.2.1 fd_12_0.2.2.1 fd_12_0.2.2.2.1 fd_12_0.2.2.2.2 rfl rfl (tyX12_ok 0 (by decide)) tyX12 tyX12_ok nmX12 tw_6_43 dX12_courses_2 (fun H locs hw => ?_)
  refine lv_aload_n hx hb dX12_courses_5 rfl (lv_at hl 0 rfl) ?_
  refine lv_iload_n hx hb dX12_courses_6 rfl (lv_at hl 1 rfl) ?_
  refine lv_i2l (v := (Int32.toInt64 v1)) hx hb dX12_courses_7 rfl ?_
  obtain ⟨x2, e, hf⟩ := ob hf
  refine q_callV (As := [.long (Int32.toInt64 v1)]) (rest := []) (st1 := [.int x2]) (c_X12_isPerson G e) B hw hz hc0 (k_X12_isPerson e) (by decide) (ci := 12) rfl rfl my_X12_isPerson mv_X12_isPerson tw_7_35 ⟨Nat.le_of_ble_eq_true rfl, Nat.le_of_ble_eq_true rfl⟩ ⟨Nat.zero_le _, Nat.zero_le _⟩ rfl hl.1 rfl rfl (Nat.le_of_ble_eq_true rfl) dX12_courses_8 (fun H locs hw => ?_)
  refine lv_if_ne (tgt := 18) hx hb dX12_courses_11 (by decide) (fun c3 => ?_) (fun c3 => ?_)
  · have hf := (if_neg c3).symm.trans hf
    refine lv_aload_n hx hb dX12_courses_18 rfl (lv_at hl 0 rfl) ?_
    refine lv_iload_n hx hb dX12_courses_19 rfl (lv_at hl 1 rfl) ?_
    obtain ⟨h4, e, hf⟩ := ob hf
    refine q_callV (As := [.int v1]) (rest := []) (st1 := []) (c_X12_begins G e) B hw hz hc0 (k_X12_begins e) (by decide) (ci := 12) rfl rfl my_X12_begins mv_X12_begins tw_7_233 ⟨Nat.le_of_ble_eq_true rfl, Nat.le_of_ble_eq_true rfl⟩ ⟨Nat.zero_le _, Nat.zero_le _⟩ rfl hl.1 rfl rfl (Nat.le_of_ble_eq_true rfl) dX12_courses_20 (fun H locs hw => ?_)
    refine lv_aload_n hx hb dX12_courses_23 rfl (lv_at hl 0 rfl) ?_
    refine lv_aload_n hx hb dX12_courses_24 rfl (lv_at hl 0 rfl) ?_
    refine lv_iload_n hx hb dX12_courses_25 rfl (lv_at hl 1 rfl) ?_
    obtain ⟨x5, e, hf⟩ := ob hf
    refine q_callV (As := [.int v1]) (rest := [.ref v0]) (st1 := [.int x5, .ref v0]) (c_X12_standNow G e) B hw hz hc0 (k_X12_standNow e) (by decide) (ci := 12) rfl rfl my_X12_standNow mv_X12_standNow tw_7_48 ⟨Nat.le_of_ble_eq_true rfl, Nat.le_of_ble_eq_true rfl⟩ ⟨Nat.zero_le _, Nat.zero_le _⟩ rfl hl.1 rfl rfl (Nat.le_of_ble_eq_true rfl) dX12_courses_26 (fun H locs hw => ?_)
    obtain ⟨⟨x6, h7⟩, e, hf⟩ := ob hf
    refine q_callV (As := [.int x5]) (rest := []) (st1 := [.long x6]) (c_X12_coursesFrom G e) B hw hz hc0 (k_X12_coursesFrom e) (by decide) (ci := 12) rfl rfl my_X12_coursesFrom mv_X12_coursesFrom tw_8_30 ⟨Nat.le_of_ble_eq_true rfl, Nat.le_of_ble_eq_true rfl⟩ ⟨Nat.zero_le _, Nat.zero_le _⟩ rfl hl.1 rfl rfl (Nat.le_of_ble_eq_true rfl) dX12_courses_29 (fun H locs hw => ?_)
    obtain ⟨rfl, rfl⟩ := so2 hf
    exact q_lret B hw hz hc0 hr hlk dX12_courses_32
  · have hf := (if_pos c3).symm.trans hf
    refine lv_ldc2 hx hb B.2.2.2.1 (B.w tw_8_29 rfl) dX12_courses_14 ?_
    obtain ⟨rfl, rfl⟩ := so2 hf
    exact q_lret B hw hz hc0 hr hlk dX12_courses_17
/-! SecondLifeModel.better(II)V -/
def f_X12_better (z : Sh) (h : Hp) (v0 : Nat) (v1 : Int32) (v2 : Int32) : Option (Hp) :=
  if z.K v0 = 12 then
    (gR z h 12 v0 28).bind fun a1 =>
    (ldI z h a1 v1).bind fun x2 =>
    if v2 ≤ x2 then
      some h
    else
      (gR z h 12 v0 28).bind fun a4 =>
      (stI z h a4 v1 v2).bind fun h5 =>
      some h5
  else none
theorem k_X12_better {z : Sh} {h : Hp} {v0 : Nat} {v1 : Int32} {v2 : Int32} {w : Hp} (hf : f_X12_better z h v0 v1 v2 = some w) : z.K v0 = 12 := by
  unfold f_X12_better at hf
  exact (if_some hf).1
set_option maxHeartbeats 4000000 in
theorem c_X12_better {l : Launch} {s0 : State} {E : Ev} (G : Gl s0 E) {z : Sh} {h : Hp} {v0 : Nat} {v1 : Int32} {v2 : Int32} {h' : Hp} (hf : f_X12_better z h v0 v1 v2 = some h') : Ct l s0 E yX12_better cX12_better 3 none 0 0 [.ref v0, .int v1, .int v2] z h h' (none) := by
  refine Ct.of G (by decide) (Nat.le_of_ble_eq_true rfl) ?_
  intro p e s m below meth c ls B hw hz hc0 hr hlk hl
  have B : Bd p s0 s E m c cX12_better 3 RX12 := B
  have hx := B.1
  have hb := B.2.1
  have hl : lv_has ls 3 [(0, .ref v0), (1, .int v1), (2, .int v2)] := hl
  unfold f_X12_better at hf
  obtain ⟨_, hf⟩ := if_some hf
  refine lv_iload_n hx hb dX12_better_0 rfl (lv_at hl 2 rfl) ?_
  refine lv_aload_n hx hb dX12_better_1 rfl (lv_at hl 0 rfl) ?_
  obtain ⟨a1, e, hf⟩ := ob hf
  refine q_getR e B hw fd_12_28.1 fd_12_28.2.1 fd_12_28.2.2.1 fd_12_28.2.2.2.1 fd_12_28.2.2.2.2 rfl tw_6_71 dX12_better_2 ?_
  refine lv_iload_n hx hb dX12_better_5 rfl (lv_at hl 1 rfl) ?_
  obtain ⟨x2, e, hf⟩ := ob hf
  refine q_ldI e B hw dX12_better_6 ?_
  refine lv_icmp_le (tgt := 17) hx hb dX12_better_7 (by decide) (fun c3 => ?_) (fun c3 => ?_)
  · have hf := (if_pos c3).symm.trans hf
    obtain rfl := so hf
    exact q_vret B hw hz hc0 hr hlk dX12_better_17
  · have hf := (if_neg c3).symm.trans hf
    refine lv_aload_n hx hb dX12_better_10 rfl (lv_at hl 0 rfl) ?_
    obtain ⟨a4, e, hf⟩ := ob hf
    refine q_getR e B hw fd_12_28.1 fd_12_28.2.1 fd_12_28.2.2.1 fd_12_28.2.2.2.1 fd_12_28.2.2.2.2 rfl tw_6_71 dX12_better_11 ?_
    refine lv_iload_n hx hb dX12_better_14 rfl (lv_at hl 1 rfl) ?_
    refine lv_iload_n hx hb dX12_better_15 rfl (lv_at hl 2 rfl) ?_
    obtain ⟨h5, e, hf⟩ := ob hf
    refine q_stI e B hw dX12_better_16 (fun H locs hw => ?_)
    obtain rfl := so hf
    exact q_vret B hw hz hc0 hr hlk dX12_better_17
