/-! SecondLife$Courses.after(II)I -/
def f_X1_after (z : Sh) (h : Hp) (v0 : Nat) (v1 : Int32) (v2 : Int32) : Option (Int32) :=
  if z.K v0 = 1 then
    if v2 = 9 then
      (gR z h 1 v0 0).bind fun a4 =>
      (f_X10_afterDrawing z h a4 v1).bind fun x5 =>
      some x5
    else
      (gR z h 1 v0 0).bind fun a2 =>
      (f_X10_afterYear z h a2 v1 v2).bind fun x3 =>
      some x3
  else none
theorem k_X1_after {z : Sh} {h : Hp} {v0 : Nat} {v1 : Int32} {v2 : Int32} {w : Int32} (hf : f_X1_after z h v0 v1 v2 = some w) : z.K v0 = 1 := by
  unfold f_X1_after at hf
  exact (if_some hf).1
set_option maxHeartbeats 4000000 in
theorem c_X1_after {l : Launch} {s0 : State} {E : Ev} (G : Gl s0 E) {z : Sh} {h : Hp} {v0 : Nat} {v1 : Int32} {v2 : Int32} {r : Int32} (hf : f_X1_after z h v0 v1 v2 = some r) : Ct l s0 E yX1_after cX1_after 3 (some .int) 2 45 [.ref v0, .int v1, .int v2] z h h (some (.int r)) := by
  refine Ct.of G (by decide) (Nat.le_of_ble_eq_true rfl) ?_
  intro p e s m below meth c ls B hw hz hc0 hr hlk hl
  have B : Bd p s0 s E m c cX1_after 3 RX1 := B
  have hx := B.1
  have hb := B.2.1
  have hl : lv_has ls 3 [(0, .ref v0), (1, .int v1), (2, .int v2)] := hl
  unfold f_X1_after at hf
  obtain ⟨_, hf⟩ := if_some hf
  refine lv_iload_n hx hb dX1_after_0 rfl (lv_at hl 2 rfl) ?_
  refine lv_bipush (v := 9) hx hb dX1_after_1 (by decide) ?_
  refine lv_icmp_ne (tgt := 17) hx hb dX1_after_3 (by decide) (fun c1 => ?_) (fun c1 => ?_)
  · have hf := (if_neg c1).symm.trans hf
    refine lv_aload_n hx hb dX1_after_17 rfl (lv_at hl 0 rfl) ?_
    obtain ⟨a2, e, hf⟩ := ob hf
    refine q_getR e B hw fd_1_0.1 fd_1_0.2.1 fd_1_0.2.2.1 fd_1_0.2.2.2.1 fd_1_0.2.2.2.2 rfl tw_2_43 dX1_after_18 ?_
    refine lv_iload_n hx hb dX1_after_21 rfl (lv_at hl 1 rfl) ?_
    refine lv_iload_n hx hb dX1_after_22 rfl (lv_at hl 2 rfl) ?_
    obtain ⟨x3, e, hf⟩ := ob hf
    refine q_callVN (As := [.int v1, .int v2]) (rest := []) (st1 := [.int x3]) (c_X10_afterYear G e) B hw hz hc0 (k_X10_afterYear e) (by decide) (ci := 10) rfl rfl my_X10_afterYear mv_X10_afterYear tw_4_185 ⟨Nat.le_of_ble_eq_true rfl, Nat.le_of_ble_eq_true rfl⟩ ⟨Nat.zero_le _, Nat.zero_le _⟩ rfl hl.1 rfl rfl (Nat.le_of_ble_eq_true rfl) dX1_after_23 (fun H locs hw => ?_)
    obtain rfl := so hf
    exact q_iret B hw hz hc0 hr hlk dX1_after_26
  · have hf := (if_pos c1).symm.trans hf
    refine lv_aload_n hx hb dX1_after_6 rfl (lv_at hl 0 rfl) ?_
    obtain ⟨a4, e, hf⟩ := ob hf
    refine q_getR e B hw fd_1_0.1 fd_1_0.2.1 fd_1_0.2.2.1 fd_1_0.2.2.2.1 fd_1_0.2.2.2.2 rfl tw_2_43 dX1_after_7 ?_
    refine lv_iload_n hx hb dX1_after_10 rfl (lv_at hl 1 rfl) ?_
    obtain ⟨x5, e, hf⟩ := ob hf
    refine q_callVN (As := [.int v1]) (rest := []) (st1 := [.int x5]) (c_X10_afterDrawing G e) B hw hz hc0 (k_X10_afterDrawing e) (by decide) (ci := 10) rfl rfl my_X10_afterDrawing mv_X10_afterDrawing tw_4_219 ⟨Nat.le_of_ble_eq_true rfl, Nat.le_of_ble_eq_true rfl⟩ ⟨Nat.zero_le _, Nat.zero_le _⟩ rfl hl.1 rfl rfl (Nat.le_of_ble_eq_true rfl) dX1_after_11 (fun H locs hw => ?_)
    refine lv_goto (tgt := 26) hx hb dX1_after_14 (by decide) ?_
    obtain rfl := so hf
    exact q_iret B hw hz hc0 hr hlk dX1_after_26
/-! SecondLife$Reckoner.worthOf(LSecondLife$Town;I)I -/
def f_X7_worthOf (n : Nat) (z : Sh) (h : Hp) (v0 : Nat) (v1 : Nat) (v2 : Int32) : Option (Int32 × Hp) :=
  if z.K v0 = 7 then
    (gR z h 7 v0 0).bind fun a1 =>
    (stI z h a1 2 v2).bind fun h2 =>
    (gR z h2 8 v1 8).bind fun a3 =>
    (f_X7_tell n z h2 v0 a3).bind fun (x4, h5) =>
    (f_X11_within z h5 x4 (-9) 9).bind fun x6 =>
    some (x6, h5)
  else none
theorem k_X7_worthOf {n : Nat} {z : Sh} {h : Hp} {v0 : Nat} {v1 : Nat} {v2 : Int32} {w : Int32 × Hp} (hf : f_X7_worthOf n z h v0 v1 v2 = some w) : z.K v0 = 7 := by
  unfold f_X7_worthOf at hf
  exact (if_some hf).1
set_option maxHeartbeats 4000000 in
theorem c_X7_worthOf {l : Launch} {s0 : State} {E : Ev} (G : Gl s0 E) {n : Nat} {z : Sh} {h : Hp} {v0 : Nat} {v1 : Nat} {v2 : Int32} {r : Int32} {h' : Hp} (hf : f_X7_worthOf n z h v0 v1 v2 = some (r, h')) : Ct l s0 E yX7_worthOf cX7_worthOf 3 (some .int) 2 48 [.ref v0, .ref v1, .int v2] z h h' (some (.int r)) := by
  refine Ct.of G (by decide) (Nat.le_of_ble_eq_true rfl) ?_
  intro p e s m below meth c ls B hw hz hc0 hr hlk hl
  have B : Bd p s0 s E m c cX7_worthOf 3 RX7 := B
  have hx := B.1
  have hb := B.2.1
  have hl : lv_has ls 3 [(0, .ref v0), (1, .ref v1), (2, .int v2)] := hl
  unfold f_X7_worthOf at hf
  obtain ⟨_, hf⟩ := if_some hf
  refine lv_aload_n hx hb dX7_worthOf_0 rfl (lv_at hl 0 rfl) ?_
  obtain ⟨a1, e, hf⟩ := ob hf
  refine q_getR e B hw fd_7_0.1 fd_7_0.2.1 fd_7_0.2.2.1 fd_7_0.2.2.2.1 fd_7_0.2.2.2.2 rfl tw_1_192 dX7_worthOf_1 ?_
  refine lv_iconst (v := 2) hx hb dX7_worthOf_4 (by decide) ?_
  refine lv_iload_n hx hb dX7_worthOf_5 rfl (lv_at hl 2 rfl) ?_
  obtain ⟨h2, e, hf⟩ := ob hf
  refine q_stI e B hw dX7_worthOf_6 (fun H locs hw => ?_)
  refine lv_aload_n hx hb dX7_worthOf_7 rfl (lv_at hl 0 rfl) ?_
  refine lv_aload_n hx hb dX7_worthOf_8 rfl (lv_at hl 1 rfl) ?_
  obtain ⟨a3, e, hf⟩ := ob hf
  refine q_getRN e B hw fd_8_8.1 fd_8_8.2.1 fd_8_8.2.2.1 fd_8_8.2.2.2.1 fd_8_8.2.2.2.2 rfl tw_1_75 dX7_worthOf_9 ?_
  obtain ⟨⟨x4, h5⟩, e, hf⟩ := ob hf
  refine q_callV (As := [.ref a3]) (rest := []) (st1 := [.int x4]) (c_X7_tell G e) B hw hz hc0 (k_X7_tell e) (by decide) (ci := 7) rfl rfl my_X7_tell mv_X7_tell tw_3_235 ⟨Nat.le_of_ble_eq_true rfl, Nat.le_of_ble_eq_true rfl⟩ ⟨Nat.zero_le _, Nat.zero_le _⟩ rfl hl.1 rfl rfl (Nat.le_of_ble_eq_true rfl) dX7_worthOf_12 (fun H locs hw => ?_)
  refine lv_bipush (v := (-9)) hx hb dX7_worthOf_15 (by decide) ?_
  refine lv_bipush (v := 9) hx hb dX7_worthOf_17 (by decide) ?_
  obtain ⟨x6, e, hf⟩ := ob hf
  refine q_callSN (As := [.int x4, .int (-9), .int 9]) (rest := []) (st1 := [.int x6]) (c_X11_within G e) B hw hz hc0 my_X11_within mv_X11_within tw_4_10 ⟨Nat.le_of_ble_eq_true rfl, Nat.le_of_ble_eq_true rfl⟩ ⟨Nat.zero_le _, Nat.zero_le _⟩ rfl hl.1 rfl rfl (Nat.le_of_ble_eq_true rfl) dX7_worthOf_19 (fun H locs hw => ?_)
  obtain ⟨rfl, rfl⟩ := so2 hf
  exact q_iret B hw hz hc0 hr hlk dX7_worthOf_22
/-! SecondLife$Reckoner.grownOf(LSecondLife$Town;)I -/
def f_X7_grownOf (n : Nat) (z : Sh) (h : Hp) (v0 : Nat) (v1 : Nat) : Option (Int32 × Hp) :=
  if z.K v0 = 7 then
    (gR z h 8 v1 9).bind fun a1 =>
    (f_X7_tell n z h v0 a1).bind fun (x2, h3) =>
    (gI z h3 8 v1 0).bind fun x4 =>
    (f_X11_within z h3 x2 0 x4).bind fun x5 =>
    some (x5, h3)
  else none
theorem k_X7_grownOf {n : Nat} {z : Sh} {h : Hp} {v0 : Nat} {v1 : Nat} {w : Int32 × Hp} (hf : f_X7_grownOf n z h v0 v1 = some w) : z.K v0 = 7 := by
  unfold f_X7_grownOf at hf
  exact (if_some hf).1
set_option maxHeartbeats 4000000 in
theorem c_X7_grownOf {l : Launch} {s0 : State} {E : Ev} (G : Gl s0 E) {n : Nat} {z : Sh} {h : Hp} {v0 : Nat} {v1 : Nat} {r : Int32} {h' : Hp} (hf : f_X7_grownOf n z h v0 v1 = some (r, h')) : Ct l s0 E yX7_grownOf cX7_grownOf 2 (some .int) 2 48 [.ref v0, .ref v1] z h h' (some (.int r)) := by
  refine Ct.of G (by decide) (Nat.le_of_ble_eq_true rfl) ?_
  intro p e s m below meth c ls B hw hz hc0 hr hlk hl
  have B : Bd p s0 s E m c cX7_grownOf 2 RX7 := B
  have hx := B.1
  have hb := B.2.1
  have hl : lv_has ls 2 [(0, .ref v0), (1, .ref v1)] := hl
  unfold f_X7_grownOf at hf
  obtain ⟨_, hf⟩ := if_some hf
  refine lv_aload_n hx hb dX7_grownOf_0 rfl (lv_at hl 0 rfl) ?_
  refine lv_aload_n hx hb dX7_grownOf_1 rfl (lv_at hl 1 rfl) ?_
  obtain ⟨a1, e, hf⟩ := ob hf
  refine q_getRN e B hw fd_8_9.1 fd_8_9.2.1 fd_8_9.2.2.1 fd_8_9.2.2.2.1 fd_8_9.2.2.2.2 rfl tw_1_78 dX7_grownOf_2 ?_
  obtain ⟨⟨x2, h3⟩, e, hf⟩ := ob hf
  refine q_callV (As := [.ref a1]) (rest := []) (st1 := [.int x2]) (c_X7_tell G e) B hw hz hc0 (k_X7_tell e) (by decide) (ci := 7) rfl rfl my_X7_tell mv_X7_tell tw_3_235 ⟨Nat.le_of_ble_eq_true rfl, Nat.le_of_ble_eq_true rfl⟩ ⟨Nat.zero_le _, Nat.zero_le _⟩ rfl hl.1 rfl rfl (Nat.le_of_ble_eq_true rfl) dX7_grownOf_5 (fun H locs hw => ?_)
  refine lv_iconst (v := 0) hx hb dX7_grownOf_8 (by decide) ?_
  refine lv_aload_n hx hb dX7_grownOf_9 rfl (lv_at hl 1 rfl) ?_
  obtain ⟨x4, e, hf⟩ := ob hf
  refine q_getIN e B hw fd_8_0.1 fd_8_0.2.1 fd_8_0.2.2.1 fd_8_0.2.2.2.1 fd_8_0.2.2.2.2 rfl tw_1_50 dX7_grownOf_10 ?_
  obtain ⟨x5, e, hf⟩ := ob hf
  refine q_callSN (As := [.int x2, .int 0, .int x4]) (rest := []) (st1 := [.int x5]) (c_X11_within G e) B hw hz hc0 my_X11_within mv_X11_within tw_4_10 ⟨Nat.le_of_ble_eq_true rfl, Nat.le_of_ble_eq_true rfl⟩ ⟨Nat.zero_le _, Nat.zero_le _⟩ rfl hl.1 rfl rfl (Nat.le_of_ble_eq_true rfl) dX7_grownOf_13 (fun H locs hw => ?_)
  obtain ⟨rfl, rfl⟩ := so2 hf
  exact q_iret B hw hz hc0 hr hlk dX7_grownOf_16
/-! SecondLife$Ways.about(LSecondLife$Town;LSecondLife$People;I)V -/
def f_X10_about_134 (n : Nat) (z : Sh) : Nat → Hp → Nat → Int32 → Option (Hp)
  | 0, _, _, _ => none
  | i + 1, h, v0, v6 =>
    if 7 ≤ v6 then
      some h
    else
      (gR z h 10 v0 0).bind fun a2 =>
      (gR z h 7 a2 0).bind fun a3 =>
      (stI z h a3 1 v6).bind fun h4 =>
      (gR z h4 10 v0 2).bind fun a5 =>
      (gR z h4 10 v0 0).bind fun a6 =>
      (gR z h4 10 v0 3).bind fun a7 =>
      (f_X7_grownOf n z h4 a6 a7).bind fun (x8, h9) =>
      (stI z h9 a5 v6 x8).bind fun h10 =>
      (some (v6 + 1)).bind fun x11 =>
      (f_X10_about_134 n z i) h10 v0 x11
def f_X10_about_87 (n : Nat) (z : Sh) (h : Hp) (v0 : Nat) (v1 : Nat) (v4 : Int32) (v5 : Int32) (u0 : Int32) (u1 : Int32) (u2 : Nat) : Option (Hp) :=
  (pI z h 10 u2 4 (u1 + u0)).bind fun h1 =>
  (gI z h1 10 v0 7).bind fun x2 =>
  (pI z h1 10 v0 7 (x2 + 1)).bind fun h3 =>
  (pR z h3 10 v0 3 (some v1)).bind fun h4 =>
  (pI z h4 10 v0 5 v4).bind fun h5 =>
  (pZ z h5 10 v0 6 v5).bind fun h6 =>
  (gR z h6 10 v0 0).bind fun a7 =>
  (gR z h6 7 a7 0).bind fun a8 =>
  (gI z h6 10 v0 5).bind fun x9 =>
  (stI z h6 a8 0 x9).bind fun h10 =>
  f_X10_about_134 n z n h10 v0 0
def f_X10_about_69 (n : Nat) (z : Sh) (h : Hp) (v0 : Nat) (v1 : Nat) (v4 : Int32) (v5 : Int32) : Option (Hp) :=
  (gI z h 10 v0 4).bind fun x1 =>
  (gR z h 10 v0 3).bind fun a2 =>
  if v1 = a2 then
    f_X10_about_87 n z h v0 v1 v4 v5 0 x1 v0
  else
    f_X10_about_87 n z h v0 v1 v4 v5 1 x1 v0
def f_X10_about_24 (n : Nat) (z : Sh) (h : Hp) (v0 : Nat) (v1 : Nat) (v2 : Nat) (v3 : Int32) (v4 : Int32) (u0 : Int32) : Option (Hp) :=
  (f_X10_standOf z h v2 v3).bind fun x1 =>
  (pI z h 10 v0 8 x1).bind fun h2 =>
  (gI z h2 10 v0 7).bind fun x3 =>
  if x3 ≤ 0 then
    f_X10_about_69 n z h2 v0 v1 v4 u0
  else
    (gR z h2 10 v0 3).bind fun a5 =>
    if v1 = a5 then
      (gI z h2 10 v0 5).bind fun x7 =>
      if v4 = x7 then
        (gI z h2 10 v0 6).bind fun x9 =>
        if u0 = x9 then
          some h2
        else
          f_X10_about_69 n z h2 v0 v1 v4 u0
      else
        f_X10_about_69 n z h2 v0 v1 v4 u0
    else
      f_X10_about_69 n z h2 v0 v1 v4 u0
def f_X10_about (n : Nat) (z : Sh) (h : Hp) (v0 : Nat) (v1 : Nat) (v2 : Nat) (v3 : Int32) : Option (Hp) :=
  if z.K v0 = 10 then
    (f_X5_part z h v2 v3 6).bind fun x1 =>
    (f_X5_part z h v2 v3 8).bind fun x2 =>
    if x2 = 0 then
      f_X10_about_24 n z h v0 v1 v2 v3 x1 1
    else
      f_X10_about_24 n z h v0 v1 v2 v3 x1 0
  else none
theorem k_X10_about {n : Nat} {z : Sh} {h : Hp} {v0 : Nat} {v1 : Nat} {v2 : Nat} {v3 : Int32} {w : Hp} (hf : f_X10_about n z h v0 v1 v2 v3 = some w) : z.K v0 = 10 := by
  unfold f_X10_about at hf
  exact (if_some hf).1
set_option maxHeartbeats 4000000 in
theorem w_X10_about_134 {p : Program} {l : Launch} {e : Env} {s : State} {m : MethodId} {args : Array Value} {below : List Frame} {meth : Method} {c : Code} {s0 : State} {E : Ev} {z : Sh} {n : Nat} {h' : Hp} (G : Gl s0 E) (B : Bd p s0 s E m c cX10_about 7 RX10) (hz : s0.heap.size ≤ z.sz) (hc0 : s.heap.size + 0 = z.sz) (hr : meth.sig.returnType = none) (hlk : meth.locks = false) : ∀ (i : Nat), ∀ (h : Hp) (v0 : Nat) (v6 : Int32) (H : Heap) (locs : List Loc) (ls : Array Slot), Pw s0 s E z h H locs → lv_has ls 7 [(0, .ref v0), (6, .int v6)] → f_X10_about_134 n z i h v0 v6 = some h' → W p l e (rmO 3 69) s m args below meth c H locs 0 0 (Zt below s0 E z h' (none) args s 0 0) (F0 m 134 ls []) := by
  have hx := B.1
  have hb := B.2.1
  intro i
  induction i with
  | zero =>
    intro h v0 v6 H locs ls hw hl hf
    have hf := (f_X10_about_134.eq_1 ..).symm.trans hf
    cases hf
  | succ i ih =>
    intro h v0 v6 H locs ls hw hl hf
    have hf := (f_X10_about_134.eq_2 ..).symm.trans hf
    refine lv_iload hx hb dX10_about_134 (lv_at hl 1 rfl) ?_
    refine lv_bipush (v := 7) hx hb dX10_about_136 (by decide) ?_
    refine lv_icmp_ge (tgt := 176) hx hb dX10_about_138 (by decide) (fun c1 => ?_) (fun c1 => ?_)
    · have hf := (if_pos c1).symm.trans hf
      obtain rfl := so hf
      exact q_vret B hw hz hc0 hr hlk dX10_about_176
    · have hf := (if_neg c1).symm.trans hf
      refine lv_aload_n hx hb dX10_about_141 rfl (lv_at hl 0 rfl) ?_
      obtain ⟨a2, e, hf⟩ := ob hf
      refine q_getR e B hw fd_10_0.1 fd_10_0.2.1 fd_10_0.2.2.1 fd_10_0.2.2.2.1 fd_10_0.2.2.2.2 rfl tw_1_227 dX10_about_142 ?_
      obtain ⟨a3, e, hf⟩ := ob hf
      refine q_getRN e B hw fd_7_0.1 fd_7_0.2.1 fd_7_0.2.2.1 fd_7_0.2.2.2.1 fd_7_0.2.2.2.2 rfl tw_1_193 dX10_about_145 ?_
      refine lv_iconst (v := 1) hx hb dX10_about_148 (by decide) ?_
      refine lv_iload hx hb dX10_about_149 (lv_at hl 1 rfl) ?_
      obtain ⟨h4, e, hf⟩ := ob hf
      refine q_stI e B hw dX10_about_151 (fun H locs hw => ?_)
      refine lv_aload_n hx hb dX10_about_152 rfl (lv_at hl 0 rfl) ?_
      obtain ⟨a5, e, hf⟩ := ob hf
      refine q_getR e B hw fd_10_2.1 fd_10_2.2.1 fd_10_2.2.2.1 fd_10_2.2.2.2.1 fd_10_2.2.2.2.2 rfl tw_1_229 dX10_about_153 ?_
      refine lv_iload hx hb dX10_about_156 (lv_at hl 1 rfl) ?_
      refine lv_aload_n hx hb dX10_about_158 rfl (lv_at hl 0 rfl) ?_
      obtain ⟨a6, e, hf⟩ := ob hf
      refine q_getR e B hw fd_10_0.1 fd_10_0.2.1 fd_10_0.2.2.1 fd_10_0.2.2.2.1 fd_10_0.2.2.2.2 rfl tw_1_227 dX10_about_159 ?_
      refine lv_aload_n hx hb dX10_about_162 rfl (lv_at hl 0 rfl) ?_
      obtain ⟨a7, e, hf⟩ := ob hf
      refine q_getR e B hw fd_10_3.1 fd_10_3.2.1 fd_10_3.2.2.1 fd_10_3.2.2.2.1 fd_10_3.2.2.2.2 rfl tw_1_230 dX10_about_163 ?_
      obtain ⟨⟨x8, h9⟩, e, hf⟩ := ob hf
      refine q_callVN (As := [.ref a7]) (rest := [.int v6, .ref a5]) (st1 := [.int x8, .int v6, .ref a5]) (c_X7_grownOf G e) B hw hz hc0 (k_X7_grownOf e) (by decide) (ci := 7) rfl rfl my_X7_grownOf mv_X7_grownOf tw_4_161 ⟨Nat.le_of_ble_eq_true rfl, Nat.le_of_ble_eq_true rfl⟩ ⟨Nat.zero_le _, Nat.zero_le _⟩ rfl hl.1 rfl rfl (Nat.le_of_ble_eq_true rfl) dX10_about_166 (fun H locs hw => ?_)
      obtain ⟨h10, e, hf⟩ := ob hf
      refine q_stI e B hw dX10_about_169 (fun H locs hw => ?_)
      obtain ⟨x11, e, hf⟩ := ob hf
      refine lv_iinc (v := x11) (lv' := [(6, .int x11), (0, .ref v0)]) hx hb dX10_about_170 hl (k := 1) rfl (Option.some.inj e) (by decide) rfl (fun ls hl => ?_)
      refine lv_goto (tgt := 134) hx hb dX10_about_173 (by decide) ?_
      exact ih h10 v0 x11 _ _ _ hw (lv_sub hl [1, 0] rfl) hf
set_option maxHeartbeats 4000000 in
theorem w_X10_about_87 {p : Program} {l : Launch} {e : Env} {s : State} {m : MethodId} {args : Array Value} {below : List Frame} {meth : Method} {c : Code} {s0 : State} {E : Ev} {z : Sh} {n : Nat} {h' : Hp} (G : Gl s0 E) (B : Bd p s0 s E m c cX10_about 7 RX10) (hz : s0.heap.size ≤ z.sz) (hc0 : s.heap.size + 0 = z.sz) (hr : meth.sig.returnType = none) (hlk : meth.locks = false) : ∀ (h : Hp) (v0 : Nat) (v1 : Nat) (v4 : Int32) (v5 : Int32) (u0 : Int32) (u1 : Int32) (u2 : Nat) (H : Heap) (locs : List Loc) (ls : Array Slot), Pw s0 s E z h H locs → lv_has ls 7 [(0, .ref v0), (1, .ref v1), (4, .int v4), (5, .int v5)] → f_X10_about_87 n z h v0 v1 v4 v5 u0 u1 u2 = some h' → W p l e (rmO 3 69) s m args below meth c H locs 0 0 (Zt below s0 E z h' (none) args s 0 0) (F0 m 87 ls [.int u0, .int u1, .ref u2]) := by
  have hx := B.1
  have hb := B.2.1
  intro h v0 v1 v4 v5 u0 u1 u2 H locs ls hw hl hf
  unfold f_X10_about_87 at hf
  refine lv_iadd hx hb dX10_about_87 ?_
  obtain ⟨h1, e, hf⟩ := ob hf
  refine q_putI e B hw fd_10_4.1 fd_10_4.2.1 fd_10_4.2.2.1 fd_10_4.2.2.2.1 fd_10_4.2.2.2.2 rfl rfl (tyX10_ok 4 (by decide)) tyX10 tyX10_ok nmX10 tw_1_233 dX10_about_88 (fun H locs hw => ?_)
  refine lv_aload_n hx hb dX10_about_91 rfl (lv_at hl 0 rfl) ?_
  refine lv_dup hx hb dX10_about_92 rfl ?_
  obtain ⟨x2, e, hf⟩ := ob hf
  refine q_getI e B hw fd_10_7.1 fd_10_7.2.1 fd_10_7.2.2.1 fd_10_7.2.2.2.1 fd_10_7.2.2.2.2 rfl tw_1_237 dX10_about_93 ?_
  refine lv_iconst (v := 1) hx hb dX10_about_96 (by decide) ?_
  refine lv_iadd hx hb dX10_about_97 ?_
  obtain ⟨h3, e, hf⟩ := ob hf
  refine q_putI e B hw fd_10_7.1 fd_10_7.2.1 fd_10_7.2.2.1 fd_10_7.2.2.2.1 fd_10_7.2.2.2.2 rfl rfl (tyX10_ok 7 (by decide)) tyX10 tyX10_ok nmX10 tw_1_237 dX10_about_98 (fun H locs hw => ?_)
  refine lv_aload_n hx hb dX10_about_101 rfl (lv_at hl 0 rfl) ?_
  refine lv_aload_n hx hb dX10_about_102 rfl (lv_at hl 1 rfl) ?_
  obtain ⟨h4, e, hf⟩ := ob hf
  refine q_putR e B hw fd_10_3.1 fd_10_3.2.1 fd_10_3.2.2.1 fd_10_3.2.2.2.1 fd_10_3.2.2.2.2 rfl rfl (tyX10_ok 3 (by decide)) (Or.inl ⟨_, rfl⟩) tyX10 tyX10_ok nmX10 tw_1_230 dX10_about_103 (fun H locs hw => ?_)
  refine lv_aload_n hx hb dX10_about_106 rfl (lv_at hl 0 rfl) ?_
  refine lv_iload hx hb dX10_about_107 (lv_at hl 2 rfl) ?_
  obtain ⟨h5, e, hf⟩ := ob hf
  refine q_putI e B hw fd_10_5.1 fd_10_5.2.1 fd_10_5.2.2.1 fd_10_5.2.2.2.1 fd_10_5.2.2.2.2 rfl rfl (tyX10_ok 5 (by decide)) tyX10 tyX10_ok nmX10 tw_1_234 dX10_about_109 (fun H locs hw => ?_)
  refine lv_aload_n hx hb dX10_about_112 rfl (lv_at hl 0 rfl) ?_
  refine lv_iload hx hb dX10_about_113 (lv_at hl 3 rfl) ?_
  obtain ⟨h6, e, hf⟩ := ob hf
  refine q_putZ e B hw fd_10_6.1 fd_10_6.2.1 fd_10_6.2.2.1 fd_10_6.2.2.2.1 fd_10_6.2.2.2.2 rfl rfl (tyX10_ok 6 (by decide)) tyX10 tyX10_ok nmX10 tw_1_235 dX10_about_115 (fun H locs hw => ?_)
  refine lv_aload_n hx hb dX10_about_118 rfl (lv_at hl 0 rfl) ?_
  obtain ⟨a7, e, hf⟩ := ob hf
  refine q_getR e B hw fd_10_0.1 fd_10_0.2.1 fd_10_0.2.2.1 fd_10_0.2.2.2.1 fd_10_0.2.2.2.2 rfl tw_1_227 dX10_about_119 ?_
  obtain ⟨a8, e, hf⟩ := ob hf
  refine q_getRN e B hw fd_7_0.1 fd_7_0.2.1 fd_7_0.2.2.1 fd_7_0.2.2.2.1 fd_7_0.2.2.2.2 rfl tw_1_193 dX10_about_122 ?_
  refine lv_iconst (v := 0) hx hb dX10_about_125 (by decide) ?_
  refine lv_aload_n hx hb dX10_about_126 rfl (lv_at hl 0 rfl) ?_
  obtain ⟨x9, e, hf⟩ := ob hf
  refine q_getI e B hw fd_10_5.1 fd_10_5.2.1 fd_10_5.2.2.1 fd_10_5.2.2.2.1 fd_10_5.2.2.2.2 rfl tw_1_234 dX10_about_127 ?_
  obtain ⟨h10, e, hf⟩ := ob hf
  refine q_stI e B hw dX10_about_130 (fun H locs hw => ?_)
  refine lv_iconst (v := 0) hx hb dX10_about_131 (by decide) ?_
  refine lv_istore (lv' := [(6, .int 0), (0, .ref v0), (1, .ref v1), (4, .int v4), (5, .int v5)]) hx hb dX10_about_132 hl (by decide) rfl (fun ls hl => ?_)
  exact w_X10_about_134 G B hz hc0 hr hlk  n h10 v0 0 _ _ _ hw (lv_sub hl [1, 0] rfl) hf
set_option maxHeartbeats 4000000 in
theorem w_X10_about_69 {p : Program} {l : Launch} {e : Env} {s : State} {m : MethodId} {args : Array Value} {below : List Frame} {meth : Method} {c : Code} {s0 : State} {E : Ev} {z : Sh} {n : Nat} {h' : Hp} (G : Gl s0 E) (B : Bd p s0 s E m c cX10_about 7 RX10) (hz : s0.heap.size ≤ z.sz) (hc0 : s.heap.size + 0 = z.sz) (hr : meth.sig.returnType = none) (hlk : meth.locks = false) : ∀ (h : Hp) (v0 : Nat) (v1 : Nat) (v4 : Int32) (v5 : Int32) (H : Heap) (locs : List Loc) (ls : Array Slot), Pw s0 s E z h H locs → lv_has ls 7 [(0, .ref v0), (1, .ref v1), (4, .int v4), (5, .int v5)] → f_X10_about_69 n z h v0 v1 v4 v5 = some h' → W p l e (rmO 3 69) s m args below meth c H locs 0 0 (Zt below s0 E z h' (none) args s 0 0) (F0 m 69 ls []) := by
  have hx := B.1
  have hb := B.2.1
  intro h v0 v1 v4 v5 H locs ls hw hl hf
  unfold f_X10_about_69 at hf
  refine lv_aload_n hx hb dX10_about_69 rfl (lv_at hl 0 rfl) ?_
  refine lv_dup hx hb dX10_about_70 rfl ?_
  obtain ⟨x1, e, hf⟩ := ob hf
  refine q_getI e B hw fd_10_4.1 fd_10_4.2.1 fd_10_4.2.2.1 fd_10_4.2.2.2.1 fd_10_4.2.2.2.2 rfl tw_1_233 dX10_about_71 ?_
  refine lv_aload_n hx hb dX10_about_74 rfl (lv_at hl 1 rfl) ?_
  refine lv_aload_n hx hb dX10_about_75 rfl (lv_at hl 0 rfl) ?_
  obtain ⟨a2, e, hf⟩ := ob hf
  refine q_getR e B hw fd_10_3.1 fd_10_3.2.1 fd_10_3.2.2.1 fd_10_3.2.2.2.1 fd_10_3.2.2.2.2 rfl tw_1_230 dX10_about_76 ?_
  refine lv_acmp_ne (rx := some v1) (ry := some a2) (tgt := 86) hx hb dX10_about_79 (by decide) (fun c3 => ?_) (fun c3 => ?_)
  · have hf := (if_neg (fun q => c3 (congrArg some q))).symm.trans hf
    refine lv_iconst (v := 1) hx hb dX10_about_86 (by decide) ?_
    exact w_X10_about_87 G B hz hc0 hr hlk  h v0 v1 v4 v5 1 x1 v0 _ _ _ hw (lv_sub hl [0, 1, 2, 3] rfl) hf
  · have hf := (if_pos (Option.some.inj c3)).symm.trans hf
    refine lv_iconst (v := 0) hx hb dX10_about_82 (by decide) ?_
    refine lv_goto (tgt := 87) hx hb dX10_about_83 (by decide) ?_
    exact w_X10_about_87 G B hz hc0 hr hlk  h v0 v1 v4 v5 0 x1 v0 _ _ _ hw (lv_sub hl [0, 1, 2, 3] rfl) hf
set_option maxHeartbeats 4000000 in
theorem w_X10_about_24 {p : Program} {l : Launch} {e : Env} {s : State} {m : MethodId} {args : Array Value} {below : List Frame} {meth : Method} {c : Code} {s0 : State} {E : Ev} {z : Sh} {n : Nat} {h' : Hp} (G : Gl s0 E) (B : Bd p s0 s E m c cX10_about 7 RX10) (hz : s0.heap.size ≤ z.sz) (hc0 : s.heap.size + 0 = z.sz) (hr : meth.sig.returnType = none) (hlk : meth.locks = false) : ∀ (h : Hp) (v0 : Nat) (v1 : Nat) (v2 : Nat) (v3 : Int32) (v4 : Int32) (u0 : Int32) (H : Heap) (locs : List Loc) (ls : Array Slot), Pw s0 s E z h H locs → lv_has ls 7 [(0, .ref v0), (1, .ref v1), (2, .ref v2), (3, .int v3), (4, .int v4)] → f_X10_about_24 n z h v0 v1 v2 v3 v4 u0 = some h' → W p l e (rmO 3 69) s m args below meth c H locs 0 0 (Zt below s0 E z h' (none) args s 0 0) (F0 m 24 ls [.int u0]) := by
  have hx := B.1
  have hb := B.2.1
  intro h v0 v1 v2 v3 v4 u0 H locs ls hw hl hf
  unfold f_X10_about_24 at hf
  refine lv_istore (lv' := [(5, .int u0), (0, .ref v0), (1, .ref v1), (2, .ref v2), (3, .int v3), (4, .int v4)]) hx hb dX10_about_24 hl (by decide) rfl (fun ls hl => ?_)
  refine lv_aload_n hx hb dX10_about_26 rfl (lv_at hl 1 rfl) ?_
  refine lv_aload_n hx hb dX10_about_27 rfl (lv_at hl 3 rfl) ?_
  refine lv_iload_n hx hb dX10_about_28 rfl (lv_at hl 4 rfl) ?_
  obtain ⟨x1, e, hf⟩ := ob hf
  refine q_callS (As := [.ref v2, .int v3]) (rest := [.ref v0]) (st1 := [.int x1, .ref v0]) (c_X10_standOf G e) B hw hz hc0 my_X10_standOf mv_X10_standOf tw_4_158 ⟨Nat.le_of_ble_eq_true rfl, Nat.le_of_ble_eq_true rfl⟩ ⟨Nat.zero_le _, Nat.zero_le _⟩ rfl hl.1 rfl rfl (Nat.le_of_ble_eq_true rfl) dX10_about_29 (fun H locs hw => ?_)
  obtain ⟨h2, e, hf⟩ := ob hf
  refine q_putI e B hw fd_10_8.1 fd_10_8.2.1 fd_10_8.2.2.1 fd_10_8.2.2.2.1 fd_10_8.2.2.2.2 rfl rfl (tyX10_ok 8 (by decide)) tyX10 tyX10_ok nmX10 tw_2_0 dX10_about_32 (fun H locs hw => ?_)
  refine lv_aload_n hx hb dX10_about_35 rfl (lv_at hl 1 rfl) ?_
  obtain ⟨x3, e, hf⟩ := ob hf
  refine q_getI e B hw fd_10_7.1 fd_10_7.2.1 fd_10_7.2.2.1 fd_10_7.2.2.2.1 fd_10_7.2.2.2.2 rfl tw_1_237 dX10_about_36 ?_
  refine lv_if_le (tgt := 69) hx hb dX10_about_39 (by decide) (fun c4 => ?_) (fun c4 => ?_)
  · have hf := (if_pos c4).symm.trans hf
    exact w_X10_about_69 G B hz hc0 hr hlk  h2 v0 v1 v4 u0 _ _ _ hw (lv_sub hl [1, 2, 5, 0] rfl) hf
  · have hf := (if_neg c4).symm.trans hf
    refine lv_aload_n hx hb dX10_about_42 rfl (lv_at hl 2 rfl) ?_
    refine lv_aload_n hx hb dX10_about_43 rfl (lv_at hl 1 rfl) ?_
    obtain ⟨a5, e, hf⟩ := ob hf
    refine q_getR e B hw fd_10_3.1 fd_10_3.2.1 fd_10_3.2.2.1 fd_10_3.2.2.2.1 fd_10_3.2.2.2.2 rfl tw_1_230 dX10_about_44 ?_
    refine lv_acmp_ne (rx := some v1) (ry := some a5) (tgt := 69) hx hb dX10_about_47 (by decide) (fun c6 => ?_) (fun c6 => ?_)
    · have hf := (if_neg (fun q => c6 (congrArg some q))).symm.trans hf
      exact w_X10_about_69 G B hz hc0 hr hlk  h2 v0 v1 v4 u0 _ _ _ hw (lv_sub hl [1, 2, 5, 0] rfl) hf
    · have hf := (if_pos (Option.some.inj c6)).symm.trans hf
      refine lv_iload hx hb dX10_about_50 (lv_at hl 5 rfl) ?_
      refine lv_aload_n hx hb dX10_about_52 rfl (lv_at hl 1 rfl) ?_
      obtain ⟨x7, e, hf⟩ := ob hf
      refine q_getI e B hw fd_10_5.1 fd_10_5.2.1 fd_10_5.2.2.1 fd_10_5.2.2.2.1 fd_10_5.2.2.2.2 rfl tw_1_234 dX10_about_53 ?_
      refine lv_icmp_ne (tgt := 69) hx hb dX10_about_56 (by decide) (fun c8 => ?_) (fun c8 => ?_)
      · have hf := (if_neg c8).symm.trans hf
        exact w_X10_about_69 G B hz hc0 hr hlk  h2 v0 v1 v4 u0 _ _ _ hw (lv_sub hl [1, 2, 5, 0] rfl) hf
      · have hf := (if_pos c8).symm.trans hf
        refine lv_iload hx hb dX10_about_59 (lv_at hl 0 rfl) ?_
        refine lv_aload_n hx hb dX10_about_61 rfl (lv_at hl 1 rfl) ?_
        obtain ⟨x9, e, hf⟩ := ob hf
        refine q_getI e B hw fd_10_6.1 fd_10_6.2.1 fd_10_6.2.2.1 fd_10_6.2.2.2.1 fd_10_6.2.2.2.2 rfl tw_1_235 dX10_about_62 ?_
        refine lv_icmp_ne (tgt := 69) hx hb dX10_about_65 (by decide) (fun c10 => ?_) (fun c10 => ?_)
        · have hf := (if_neg c10).symm.trans hf
          exact w_X10_about_69 G B hz hc0 hr hlk  h2 v0 v1 v4 u0 _ _ _ hw (lv_sub hl [1, 2, 5, 0] rfl) hf
        · have hf := (if_pos c10).symm.trans hf
          obtain rfl := so hf
          exact q_vret B hw hz hc0 hr hlk dX10_about_68
set_option maxHeartbeats 4000000 in
theorem c_X10_about {l : Launch} {s0 : State} {E : Ev} (G : Gl s0 E) {n : Nat} {z : Sh} {h : Hp} {v0 : Nat} {v1 : Nat} {v2 : Nat} {v3 : Int32} {h' : Hp} (hf : f_X10_about n z h v0 v1 v2 v3 = some h') : Ct l s0 E yX10_about cX10_about 7 none 3 69 [.ref v0, .ref v1, .ref v2, .int v3] z h h' (none) := by
  refine Ct.of G (by decide) (Nat.le_of_ble_eq_true rfl) ?_
  intro p e s m below meth c ls B hw hz hc0 hr hlk hl
  have B : Bd p s0 s E m c cX10_about 7 RX10 := B
  have hx := B.1
  have hb := B.2.1
  have hl : lv_has ls 7 [(0, .ref v0), (1, .ref v1), (2, .ref v2), (3, .int v3)] := hl
  unfold f_X10_about at hf
  obtain ⟨_, hf⟩ := if_some hf
  refine lv_aload_n hx hb dX10_about_0 rfl (lv_at hl 2 rfl) ?_
  refine lv_iload_n hx hb dX10_about_1 rfl (lv_at hl 3 rfl) ?_
  refine lv_bipush (v := 6) hx hb dX10_about_2 (by decide) ?_
  obtain ⟨x1, e, hf⟩ := ob hf
  refine q_callVN (As := [.int v3, .int 6]) (rest := []) (st1 := [.int x1]) (c_X5_part G e) B hw hz hc0 (k_X5_part e) (by decide) (ci := 5) rfl rfl my_X5_part mv_X5_part tw_4_157 ⟨Nat.le_of_ble_eq_true rfl, Nat.le_of_ble_eq_true rfl⟩ ⟨Nat.zero_le _, Nat.zero_le _⟩ rfl hl.1 rfl rfl (Nat.le_of_ble_eq_true rfl) dX10_about_4 (fun H locs hw => ?_)
  refine lv_istore (lv' := [(4, .int x1), (0, .ref v0), (1, .ref v1), (2, .ref v2), (3, .int v3)]) hx hb dX10_about_7 hl (by decide) rfl (fun ls hl => ?_)
  refine lv_aload_n hx hb dX10_about_9 rfl (lv_at hl 3 rfl) ?_
  refine lv_iload_n hx hb dX10_about_10 rfl (lv_at hl 4 rfl) ?_
  refine lv_bipush (v := 8) hx hb dX10_about_11 (by decide) ?_
  obtain ⟨x2, e, hf⟩ := ob hf
  refine q_callVN (As := [.int v3, .int 8]) (rest := []) (st1 := [.int x2]) (c_X5_part G e) B hw hz hc0 (k_X5_part e) (by decide) (ci := 5) rfl rfl my_X5_part mv_X5_part tw_4_157 ⟨Nat.le_of_ble_eq_true rfl, Nat.le_of_ble_eq_true rfl⟩ ⟨Nat.zero_le _, Nat.zero_le _⟩ rfl hl.1 rfl rfl (Nat.le_of_ble_eq_true rfl) dX10_about_13 (fun H locs hw => ?_)
  refine lv_if_ne (tgt := 23) hx hb dX10_about_16 (by decide) (fun c3 => ?_) (fun c3 => ?_)
  · have hf := (if_neg c3).symm.trans hf
    refine lv_iconst (v := 0) hx hb dX10_about_23 (by decide) ?_
    exact w_X10_about_24 G B hz hc0 hr hlk  h v0 v1 v2 v3 x1 0 _ _ _ hw (lv_sub hl [1, 2, 3, 4, 0] rfl) hf
  · have hf := (if_pos c3).symm.trans hf
    refine lv_iconst (v := 1) hx hb dX10_about_19 (by decide) ?_
    refine lv_goto (tgt := 24) hx hb dX10_about_20 (by decide) ?_
    exact w_X10_about_24 G B hz hc0 hr hlk  h v0 v1 v2 v3 x1 1 _ _ _ hw (lv_sub hl [1, 2, 3, 4, 0] rfl) hf
/-! SecondLife$Ways.worthOf(II)I -/
def f_X10_worthOf_56 (n : Nat)  (z : Sh) (h : Hp) (v0 : Nat) (v1 : Int32) (v2 : Int32) (v3 : Nat) : Option (Int32 × Hp × Sh) :=
  (some ((v1 * 4) + v2)).bind fun x1 =>
  (gI z h 10 v0 4).bind fun x2 =>
  (f_X3_find z h v3 x1 x2).bind fun x3 =>
  if (lg_cmp x3 (-1)) = 0 then
    (f_X10_turnTo z h v0 v1).bind fun h5 =>
    (gR z h5 10 v0 0).bind fun a6 =>
    (gR z h5 10 v0 3).bind fun a7 =>
    (f_X7_worthOf n z h5 a6 a7 v2).bind fun (x8, h9) =>
    (some (Int32.toInt64 (x8 - (-9)))).bind fun x10 =>
    (gI z h9 10 v0 4).bind fun x11 =>
    (f_X3_keep z h9 v3 x1 x11 x10).bind fun h12 =>
    some (((Int64.toInt32 x10) + (-9)), h12, z)
  else
    some (((Int64.toInt32 x3) + (-9)), h, z)
def f_X10_worthOf (n : Nat) (z : Sh) (h : Hp) (v0 : Nat) (v1 : Int32) (v2 : Int32) : Option (Int32 × Hp × Sh) :=
  if z.K v0 = 10 then
    gd3 z <|
    (gI z h 10 v0 5).bind fun x1 =>
    if x1 < 0 then
      some ((0 : Int32), h, z)
    else
      (gI z h 10 v0 5).bind fun x3 =>
      (gR z h 10 v0 1).bind fun a4 =>
      (aL z a4).bind fun x5 =>
      if x3 < x5 then
        (gR z h 10 v0 1).bind fun a7 =>
        (gI z h 10 v0 5).bind fun x8 =>
        (ldN z h 17 a7 x8).bind fun o9 =>
        (match o9 with
        | none =>
          (nwO z h 3).bind fun (a11, h12, z13) =>
          gd3 z13 <|
          (f_X3_init z13 h12 a11 5600).bind fun (h14, z15) =>
          gd3 z15 <|
          (gR z15 h14 10 v0 1).bind fun a16 =>
          (gI z15 h14 10 v0 5).bind fun x17 =>
          (stR z15 h14 17 3 a16 x17 a11).bind fun h18 =>
          f_X10_worthOf_56 n z15 h18 v0 v1 v2 a11
        | some a10 =>
          f_X10_worthOf_56 n z h v0 v1 v2 a10)
      else
        some ((0 : Int32), h, z)
  else none
theorem k_X10_worthOf {n : Nat} {z : Sh} {h : Hp} {v0 : Nat} {v1 : Int32} {v2 : Int32} {w : Int32 × Hp × Sh} (hf : f_X10_worthOf n z h v0 v1 v2 = some w) : z.K v0 = 10 := by
  unfold f_X10_worthOf at hf
  exact (if_some hf).1
theorem mo_X10_worthOf {n : Nat} {z : Sh} {h : Hp} {v0 : Nat} {v1 : Int32} {v2 : Int32} {r : Int32} {h' : Hp} {zE : Sh} (hf : f_X10_worthOf n z h v0 v1 v2 = some (r, h', zE)) : z.sz ≤ zE.sz ∧ z.sl ≤ zE.sl := by
  unfold f_X10_worthOf at hf
  exact (gd3_some (if_some hf).2).1
set_option maxHeartbeats 4000000 in
theorem w_X10_worthOf_56 {p : Program} {l : Launch} {e : Env} {s : State} {m : MethodId} {args : Array Value} {below : List Frame} {meth : Method} {c : Code} {s0 : State} {E : Ev} {z0 : Sh} {n : Nat} {r : Int32} {h' : Hp} {zE : Sh} (G : Gl s0 E) (B : Bd p s0 s E m c cX10_worthOf 7 RX10) (hr : meth.sig.returnType = (some .int)) (hlk : meth.locks = false) : ∀ (z : Sh) (h : Hp) (v0 : Nat) (v1 : Int32) (v2 : Int32) (v3 : Nat) (H : Heap) (locs : List Loc) (ls : Array Slot), Pw s0 s E z h H locs → Mo s0 s z0 z zE → lv_has ls 7 [(0, .ref v0), (1, .int v1), (2, .int v2), (3, .ref v3)] → f_X10_worthOf_56 n z h v0 v1 v2 v3 = some (r, h', zE) → W p l e (rmA 3 70 z0 zE) s m args below meth c H locs (z.sz - z0.sz) (z.sl - z0.sl) (Zt below s0 E zE h' (some (.int r)) args s (zE.sz - z0.sz) (zE.sl - z0.sl)) (F0 m 56 ls []) := by
  have hx := B.1
  have hb := B.2.1
  intro z h v0 v1 v2 v3 H locs ls hw hM hl hf
  unfold f_X10_worthOf_56 at hf
  refine lv_iload_n hx hb dX10_worthOf_56 rfl (lv_at hl 1 rfl) ?_
  refine lv_iconst (v := 4) hx hb dX10_worthOf_57 (by decide) ?_
  refine lv_imul hx hb dX10_worthOf_58 ?_
  refine lv_iload_n hx hb dX10_worthOf_59 rfl (lv_at hl 2 rfl) ?_
  refine lv_iadd hx hb dX10_worthOf_60 ?_
  obtain ⟨x1, e, hf⟩ := ob hf
  refine q_nmI e ?_
  refine lv_istore (lv' := [(4, .int x1), (0, .ref v0), (1, .int v1), (2, .int v2), (3, .ref v3)]) hx hb dX10_worthOf_61 hl (by decide) rfl (fun ls hl => ?_)
  refine lv_aload_n hx hb dX10_worthOf_63 rfl (lv_at hl 4 rfl) ?_
  refine lv_iload hx hb dX10_worthOf_64 (lv_at hl 0 rfl) ?_
  refine lv_aload_n hx hb dX10_worthOf_66 rfl (lv_at hl 1 rfl) ?_
  obtain ⟨x2, e, hf⟩ := ob hf
  refine q_getI e B hw fd_10_4.1 fd_10_4.2.1 fd_10_4.2.2.1 fd_10_4.2.2.2.1 fd_10_4.2.2.2.2 rfl tw_1_233 dX10_worthOf_67 ?_
  obtain ⟨x3, e, hf⟩ := ob hf
  refine q_callVN (As := [.int x1, .int x2]) (rest := []) (st1 := [.long x3]) (c_X3_find G e) B hw hM.hz hM.hc0 (k_X3_find e) (by decide) (ci := 3) rfl rfl my_X3_find mv_X3_find tw_4_205 ⟨Nat.le_of_ble_eq_true rfl, Nat.le_of_ble_eq_true rfl⟩ hM.hcs rfl hl.1 rfl rfl (Nat.le_of_ble_eq_true rfl) dX10_worthOf_70 (fun H locs hw => ?_)
  refine lv_lstore (lv' := [(5, .long x3), (4, .int x1), (0, .ref v0), (1, .int v1), (2, .int v2), (3, .ref v3)]) hx hb dX10_worthOf_73 hl (by decide) rfl (fun ls hl => ?_)
  refine lv_lload hx hb dX10_worthOf_75 (lv_at hl 0 rfl) ?_
  refine lv_ldc2 hx hb B.2.2.2.1 (B.w tw_4_206 rfl) dX10_worthOf_77 ?_
  refine W.lcmp hx hb dX10_worthOf_80 ?_
  refine lv_if_ne (tgt := 119) hx hb dX10_worthOf_81 (by decide) (fun c4 => ?_) (fun c4 => ?_)
  · have hf := (if_neg c4).symm.trans hf
    refine lv_lload hx hb dX10_worthOf_119 (lv_at hl 0 rfl) ?_
    refine lv_l2i (v := (Int64.toInt32 x3)) hx hb dX10_worthOf_121 rfl ?_
    refine lv_bipush (v := (-9)) hx hb dX10_worthOf_122 (by decide) ?_
    refine lv_iadd hx hb dX10_worthOf_124 ?_
    obtain ⟨rfl, rfl, rfl⟩ := so3 hf
    exact q_iret B hw hM.hz hM.hc0 hr hlk dX10_worthOf_125
  · have hf := (if_pos c4).symm.trans hf
    refine lv_aload_n hx hb dX10_worthOf_84 rfl (lv_at hl 2 rfl) ?_
    refine lv_iload_n hx hb dX10_worthOf_85 rfl (lv_at hl 3 rfl) ?_
    obtain ⟨h5, e, hf⟩ := ob hf
    refine q_callV (As := [.int v1]) (rest := []) (st1 := []) (c_X10_turnTo G e) B hw hM.hz hM.hc0 (k_X10_turnTo e) (by decide) (ci := 10) rfl rfl my_X10_turnTo mv_X10_turnTo tw_4_207 ⟨Nat.le_of_ble_eq_true rfl, Nat.le_of_ble_eq_true rfl⟩ hM.hcs rfl hl.1 rfl rfl (Nat.le_of_ble_eq_true rfl) dX10_worthOf_86 (fun H locs hw => ?_)
    refine lv_aload_n hx hb dX10_worthOf_89 rfl (lv_at hl 2 rfl) ?_
    obtain ⟨a6, e, hf⟩ := ob hf
    refine q_getR e B hw fd_10_0.1 fd_10_0.2.1 fd_10_0.2.2.1 fd_10_0.2.2.2.1 fd_10_0.2.2.2.2 rfl tw_1_227 dX10_worthOf_90 ?_
    refine lv_aload_n hx hb dX10_worthOf_93 rfl (lv_at hl 2 rfl) ?_
    obtain ⟨a7, e, hf⟩ := ob hf
    refine q_getR e B hw fd_10_3.1 fd_10_3.2.1 fd_10_3.2.2.1 fd_10_3.2.2.2.1 fd_10_3.2.2.2.2 rfl tw_1_230 dX10_worthOf_94 ?_
    refine lv_iload_n hx hb dX10_worthOf_97 rfl (lv_at hl 4 rfl) ?_
    obtain ⟨⟨x8, h9⟩, e, hf⟩ := ob hf
    refine q_callVN (As := [.ref a7, .int v2]) (rest := []) (st1 := [.int x8]) (c_X7_worthOf G e) B hw hM.hz hM.hc0 (k_X7_worthOf e) (by decide) (ci := 7) rfl rfl my_X7_worthOf mv_X7_worthOf tw_4_214 ⟨Nat.le_of_ble_eq_true rfl, Nat.le_of_ble_eq_true rfl⟩ hM.hcs rfl hl.1 rfl rfl (Nat.le_of_ble_eq_true rfl) dX10_worthOf_98 (fun H locs hw => ?_)
    refine lv_bipush (v := (-9)) hx hb dX10_worthOf_101 (by decide) ?_
    refine lv_isub hx hb dX10_worthOf_103 ?_
    refine lv_i2l (v := (Int32.toInt64 (x8 - (-9)))) hx hb dX10_worthOf_104 rfl ?_
    obtain ⟨x10, e, hf⟩ := ob hf
    refine q_nmJ e ?_
    refine lv_lstore (lv' := [(5, .long x10), (4, .int x1), (0, .ref v0), (1, .int v1), (2, .int v2), (3, .ref v3)]) hx hb dX10_worthOf_105 hl (by decide) rfl (fun ls hl => ?_)
    refine lv_aload_n hx hb dX10_worthOf_107 rfl (lv_at hl 5 rfl) ?_
    refine lv_iload hx hb dX10_worthOf_108 (lv_at hl 1 rfl) ?_
    refine lv_aload_n hx hb dX10_worthOf_110 rfl (lv_at hl 2 rfl) ?_
    obtain ⟨x11, e, hf⟩ := ob hf
    refine q_getI e B hw fd_10_4.1 fd_10_4.2.1 fd_10_4.2.2.1 fd_10_4.2.2.2.1 fd_10_4.2.2.2.2 rfl tw_1_233 dX10_worthOf_111 ?_
    refine lv_lload hx hb dX10_worthOf_114 (lv_at hl 0 rfl) ?_
    obtain ⟨h12, e, hf⟩ := ob hf
    refine q_callVN (As := [.int x1, .int x11, .long x10]) (rest := []) (st1 := []) (c_X3_keep G e) B hw hM.hz hM.hc0 (k_X3_keep e) (by decide) (ci := 3) rfl rfl my_X3_keep mv_X3_keep tw_4_215 ⟨Nat.le_of_ble_eq_true rfl, Nat.le_of_ble_eq_true rfl⟩ hM.hcs rfl hl.1 rfl rfl (Nat.le_of_ble_eq_true rfl) dX10_worthOf_116 (fun H locs hw => ?_)
    refine lv_lload hx hb dX10_worthOf_119 (lv_at hl 0 rfl) ?_
    refine lv_l2i (v := (Int64.toInt32 x10)) hx hb dX10_worthOf_121 rfl ?_
    refine lv_bipush (v := (-9)) hx hb dX10_worthOf_122 (by decide) ?_
    refine lv_iadd hx hb dX10_worthOf_124 ?_
    obtain ⟨rfl, rfl, rfl⟩ := so3 hf
    exact q_iret B hw hM.hz hM.hc0 hr hlk dX10_worthOf_125
set_option maxHeartbeats 4000000 in
theorem c_X10_worthOf {l : Launch} {s0 : State} {E : Ev} (G : Gl s0 E) {n : Nat} {z : Sh} {h : Hp} {v0 : Nat} {v1 : Int32} {v2 : Int32} {r : Int32} {h' : Hp} {zE : Sh} (hf : f_X10_worthOf n z h v0 v1 v2 = some (r, h', zE)) : Ca l s0 E yX10_worthOf cX10_worthOf 7 (some .int) 3 70 [.ref v0, .int v1, .int v2] z zE h h' (some (.int r)) := by
  refine Ca.of G (by decide +kernel) (Nat.le_of_ble_eq_true rfl) (mo_X10_worthOf hf) ?_
  intro p e s m below meth c ls B hw hM hr hlk hnm0 hl
  have B : Bd p s0 s E m c cX10_worthOf 7 RX10 := B
  have hx := B.1
  have hb := B.2.1
  have hl : lv_has ls 7 [(0, .ref v0), (1, .int v1), (2, .int v2)] := hl
  unfold f_X10_worthOf at hf
  obtain ⟨_, hf⟩ := if_some hf
  obtain ⟨_, hf⟩ := gd3_some hf
  refine lv_aload_n hx hb dX10_worthOf_0 rfl (lv_at hl 0 rfl) ?_
  obtain ⟨x1, e, hf⟩ := ob hf
  refine q_getI e B hw fd_10_5.1 fd_10_5.2.1 fd_10_5.2.2.1 fd_10_5.2.2.2.1 fd_10_5.2.2.2.2 rfl tw_1_234 dX10_worthOf_1 ?_
  refine lv_if_lt (tgt := 19) hx hb dX10_worthOf_4 (by decide) (fun c2 => ?_) (fun c2 => ?_)
  · have hf := (if_pos c2).symm.trans hf
    refine lv_iconst (v := 0) hx hb dX10_worthOf_19 (by decide) ?_
    obtain ⟨rfl, rfl, rfl⟩ := so3 hf
    exact q_iret B hw hM.hz hM.hc0 hr hlk dX10_worthOf_20
  · have hf := (if_neg c2).symm.trans hf
    refine lv_aload_n hx hb dX10_worthOf_7 rfl (lv_at hl 0 rfl) ?_
    obtain ⟨x3, e, hf⟩ := ob hf
    refine q_getI e B hw fd_10_5.1 fd_10_5.2.1 fd_10_5.2.2.1 fd_10_5.2.2.2.1 fd_10_5.2.2.2.2 rfl tw_1_234 dX10_worthOf_8 ?_
    refine lv_aload_n hx hb dX10_worthOf_11 rfl (lv_at hl 0 rfl) ?_
    obtain ⟨a4, e, hf⟩ := ob hf
    refine q_getR e B hw fd_10_1.1 fd_10_1.2.1 fd_10_1.2.2.1 fd_10_1.2.2.2.1 fd_10_1.2.2.2.2 rfl tw_1_228 dX10_worthOf_12 ?_
    obtain ⟨x5, e, hf⟩ := ob hf
    refine q_len e B hw dX10_worthOf_15 ?_
    refine lv_icmp_lt (tgt := 21) hx hb dX10_worthOf_16 (by decide) (fun c6 => ?_) (fun c6 => ?_)
    · have hf := (if_pos c6).symm.trans hf
      refine lv_aload_n hx hb dX10_worthOf_21 rfl (lv_at hl 0 rfl) ?_
      obtain ⟨a7, e, hf⟩ := ob hf
      refine q_getR e B hw fd_10_1.1 fd_10_1.2.1 fd_10_1.2.2.1 fd_10_1.2.2.2.1 fd_10_1.2.2.2.2 rfl tw_1_228 dX10_worthOf_22 ?_
      refine lv_aload_n hx hb dX10_worthOf_25 rfl (lv_at hl 0 rfl) ?_
      obtain ⟨x8, e, hf⟩ := ob hf
      refine q_getI e B hw fd_10_5.1 fd_10_5.2.1 fd_10_5.2.2.1 fd_10_5.2.2.2.1 fd_10_5.2.2.2.2 rfl tw_1_234 dX10_worthOf_26 ?_
      obtain ⟨o9, e, hf⟩ := ob hf
      refine q_ldN (t0 := 4) e B hw (by decide) (by decide) rfl dX10_worthOf_29 ?_
      rcases o9 with _ | a10
      · refine lv_astore_nN (lv' := [(3, .null), (0, .ref v0), (1, .int v1), (2, .int v2)]) hx hb dX10_worthOf_30 rfl hl (by decide) rfl (fun ls hl => ?_)
        refine lv_aload_nN hx hb dX10_worthOf_31 rfl (lv_at hl 0 rfl) ?_
        refine lv_ifnonnullN hx hb dX10_worthOf_32 ?_
        obtain ⟨⟨a11, h12, z13⟩, e, hf⟩ := ob hf
        obtain ⟨hg, hf⟩ := gd3_some hf
        refine q_newO e hg B hw hM (by decide) (ci := 3) rfl rfl tyX3 tyX3_ok dfX3 tw_1_223 tw_2_30 tw_1_10 dX10_worthOf_35 (fun H locs hw hM => ?_)
        refine lv_dup hx hb dX10_worthOf_38 rfl ?_
        refine lv_sipush (v := 5600) hx hb dX10_worthOf_39 (by decide) ?_
        obtain ⟨⟨h14, z15⟩, e, hf⟩ := ob hf
        obtain ⟨hg, hf⟩ := gd3_some hf
        refine q_callINA (As := [.int 5600]) (rest := [.ref a11]) (c_X3_init G e) (mo_X3_init e) hg B hw hM rfl my_X3_init mv_X3_init tw_4_204 ⟨Nat.le_of_ble_eq_true rfl, Nat.le_of_ble_eq_true rfl⟩ rfl hl.1 rfl (Nat.le_of_ble_eq_true rfl) dX10_worthOf_42 (fun H locs hw hM => ?_)
        refine lv_astore_n (lv' := [(3, .ref a11), (0, .ref v0), (1, .int v1), (2, .int v2)]) hx hb dX10_worthOf_45 rfl hl (by decide) rfl (fun ls hl => ?_)
        refine lv_aload_n hx hb dX10_worthOf_46 rfl (lv_at hl 1 rfl) ?_
        obtain ⟨a16, e, hf⟩ := ob hf
        refine q_getR e B hw fd_10_1.1 fd_10_1.2.1 fd_10_1.2.2.1 fd_10_1.2.2.2.1 fd_10_1.2.2.2.2 rfl tw_1_228 dX10_worthOf_47 ?_
        refine lv_aload_n hx hb dX10_worthOf_50 rfl (lv_at hl 1 rfl) ?_
        obtain ⟨x17, e, hf⟩ := ob hf
        refine q_getI e B hw fd_10_5.1 fd_10_5.2.1 fd_10_5.2.2.1 fd_10_5.2.2.2.1 fd_10_5.2.2.2.2 rfl tw_1_234 dX10_worthOf_51 ?_
        refine lv_aload_n hx hb dX10_worthOf_54 rfl (lv_at hl 0 rfl) ?_
        obtain ⟨h18, e, hf⟩ := ob hf
        refine q_stR (t0 := 4) e B hw (by decide) (by decide) (by decide) rfl rfl dX10_worthOf_55 (fun H locs hw => ?_)
        exact w_X10_worthOf_56 G B hr hlk  z15 h18 v0 v1 v2 a11 _ _ _ hw hM (lv_sub hl [1, 2, 3, 0] rfl) hf
      · refine lv_astore_n (lv' := [(3, .ref a10), (0, .ref v0), (1, .int v1), (2, .int v2)]) hx hb dX10_worthOf_30 rfl hl (by decide) rfl (fun ls hl => ?_)
        refine lv_aload_n hx hb dX10_worthOf_31 rfl (lv_at hl 0 rfl) ?_
        refine lv_ifnonnull (tgt := 56) hx hb dX10_worthOf_32 (by decide) ?_
        exact w_X10_worthOf_56 G B hr hlk  z h v0 v1 v2 a10 _ _ _ hw hM (lv_sub hl [1, 2, 3, 0] rfl) hf
    · have hf := (if_neg c6).symm.trans hf
      refine lv_iconst (v := 0) hx hb dX10_worthOf_19 (by decide) ?_
      obtain ⟨rfl, rfl, rfl⟩ := so3 hf
      exact q_iret B hw hM.hz hM.hc0 hr hlk dX10_worthOf_20
/-! java/lang/String.charAt(I)C -/
def f_J0_charAt_5068e (z : Sh) (h : Hp) (v0 : Nat) (v1 : Int32) : Option (Int32) :=
  if z.isS v0 = true then
    (f_J0_isLatin1_aae02 z h v0).bind fun x1 =>
    if x1 = 0 then
      none
    else
      (gSV z h v0).bind fun a4 =>
      (f_J1_charAt_3b067 z h a4 v1).bind fun x5 =>
      bc x5
  else none
theorem k_J0_charAt_5068e {z : Sh} {h : Hp} {v0 : Nat} {v1 : Int32} {w : Int32} (hf : f_J0_charAt_5068e z h v0 v1 = some w) : z.isS v0 = true := by
  unfold f_J0_charAt_5068e at hf
  exact (if_some hf).1
set_option maxHeartbeats 4000000 in
theorem c_J0_charAt_5068e {l : Launch} {s0 : State} {E : Ev} (G : Gl s0 E) {z : Sh} {h : Hp} {v0 : Nat} {v1 : Int32} {r : Int32} (hf : f_J0_charAt_5068e z h v0 v1 = some r) : Ct l s0 E yJ0_charAt_5068e cJ0_charAt_5068e 2 (some .char) 3 64 [.ref v0, .int v1] z h h (some (.int r)) := by
  refine Ct.ofF G (by decide +kernel) (Nat.le_of_ble_eq_true rfl) ?_
  intro p e s m below meth c ls B hw hz hc0 hr hlk hl
  have B : Bd p s0 s E m c cJ0_charAt_5068e 2 RJ0 := B
  have hx := B.1
  have hb := B.2.1
  have hl : lv_has ls 2 [(0, .ref v0), (1, .int v1)] := hl
  unfold f_J0_charAt_5068e at hf
  obtain ⟨_, hf⟩ := if_some hf
  refine lv_aload_n hx hb dJ0_charAt_5068e_0 rfl (lv_at hl 0 rfl) ?_
  obtain ⟨x1, e, hf⟩ := ob hf
  refine q_callVS (As := []) (rest := []) (st1 := [.int x1]) (c_J0_isLatin1_aae02 G e) B hw hz hc0 (k_J0_isLatin1_aae02 e) rfl my_J0_isLatin1_aae02 mv_J0_isLatin1_aae02 tw_2_197 ⟨Nat.le_of_ble_eq_true rfl, Nat.le_of_ble_eq_true rfl⟩ ⟨Nat.zero_le _, Nat.zero_le _⟩ rfl hl.1 rfl rfl (Nat.le_of_ble_eq_true rfl) dJ0_charAt_5068e_1 (fun H locs hw => ?_)
  refine lv_if_eq (tgt := 16) hx hb dJ0_charAt_5068e_4 (by decide) (fun c2 => ?_) (fun c2 => ?_)
  · have hf := (if_pos c2).symm.trans hf
    cases hf
  · have hf := (if_neg c2).symm.trans hf
    refine lv_aload_n hx hb dJ0_charAt_5068e_7 rfl (lv_at hl 0 rfl) ?_
    obtain ⟨a4, e, hf⟩ := ob hf
    refine q_gSV e B hw rfl tw_8_212 dJ0_charAt_5068e_8 ?_
    refine lv_iload_n hx hb dJ0_charAt_5068e_11 rfl (lv_at hl 1 rfl) ?_
    obtain ⟨x5, e, hf⟩ := ob hf
    refine q_callS (As := [.ref a4, .int v1]) (rest := []) (st1 := [.int x5]) (c_J1_charAt_3b067 G e) B hw hz hc0 my_J1_charAt_3b067 mv_J1_charAt_3b067 tw_3_51 ⟨Nat.le_of_ble_eq_true rfl, Nat.le_of_ble_eq_true rfl⟩ ⟨Nat.zero_le _, Nat.zero_le _⟩ rfl hl.1 rfl rfl (Nat.le_of_ble_eq_true rfl) dJ0_charAt_5068e_12 (fun H locs hw => ?_)
    obtain ⟨e1, e⟩ := if_some hf
    cases e
    exact q_cret e1 B hw hz hc0 hr hlk dJ0_charAt_5068e_15
/-! java/lang/String.indexOf(II)I -/
def f_J0_indexOf_7cf53 (n : Nat) (z : Sh) (h : Hp) (v0 : Nat) (v1 : Int32) (v2 : Int32) : Option (Int32) :=
  if z.isS v0 = true then
    (f_J0_isLatin1_aae02 z h v0).bind fun x1 =>
    if x1 = 0 then
      none
    else
      (gSV z h v0).bind fun a5 =>
      (f_J0_length_8abf5 z h v0).bind fun x6 =>
      (f_J1_indexOf_4cfef n z h a5 v1 v2 x6).bind fun x7 =>
      some x7
  else none
theorem k_J0_indexOf_7cf53 {n : Nat} {z : Sh} {h : Hp} {v0 : Nat} {v1 : Int32} {v2 : Int32} {w : Int32} (hf : f_J0_indexOf_7cf53 n z h v0 v1 v2 = some w) : z.isS v0 = true := by
  unfold f_J0_indexOf_7cf53 at hf
  exact (if_some hf).1
set_option maxHeartbeats 4000000 in
theorem c_J0_indexOf_7cf53 {l : Launch} {s0 : State} {E : Ev} (G : Gl s0 E) {n : Nat} {z : Sh} {h : Hp} {v0 : Nat} {v1 : Int32} {v2 : Int32} {r : Int32} (hf : f_J0_indexOf_7cf53 n z h v0 v1 v2 = some r) : Ct l s0 E yJ0_indexOf_7cf53 cJ0_indexOf_7cf53 3 (some .int) 2 48 [.ref v0, .int v1, .int v2] z h h (some (.int r)) := by
  refine Ct.ofF G (by decide +kernel) (Nat.le_of_ble_eq_true rfl) ?_
  intro p e s m below meth c ls B hw hz hc0 hr hlk hl
  have B : Bd p s0 s E m c cJ0_indexOf_7cf53 3 RJ0 := B
  have hx := B.1
  have hb := B.2.1
  have hl : lv_has ls 3 [(0, .ref v0), (1, .int v1), (2, .int v2)] := hl
  unfold f_J0_indexOf_7cf53 at hf
  obtain ⟨_, hf⟩ := if_some hf
  refine lv_aload_n hx hb dJ0_indexOf_7cf53_0 rfl (lv_at hl 0 rfl) ?_
  obtain ⟨x1, e, hf⟩ := ob hf
  refine q_callVS (As := []) (rest := []) (st1 := [.int x1]) (c_J0_isLatin1_aae02 G e) B hw hz hc0 (k_J0_isLatin1_aae02 e) rfl my_J0_isLatin1_aae02 mv_J0_isLatin1_aae02 tw_2_197 ⟨Nat.le_of_ble_eq_true rfl, Nat.le_of_ble_eq_true rfl⟩ ⟨Nat.zero_le _, Nat.zero_le _⟩ rfl hl.1 rfl rfl (Nat.le_of_ble_eq_true rfl) dJ0_indexOf_7cf53_1 (fun H locs hw => ?_)
  refine lv_if_eq (tgt := 23) hx hb dJ0_indexOf_7cf53_4 (by decide) (fun c2 => ?_) (fun c2 => ?_)
  · have hf := (if_pos c2).symm.trans hf
    cases hf
  · have hf := (if_neg c2).symm.trans hf
    refine lv_aload_n hx hb dJ0_indexOf_7cf53_7 rfl (lv_at hl 0 rfl) ?_
    obtain ⟨a5, e, hf⟩ := ob hf
    refine q_gSV e B hw rfl tw_8_212 dJ0_indexOf_7cf53_8 ?_
    refine lv_iload_n hx hb dJ0_indexOf_7cf53_11 rfl (lv_at hl 1 rfl) ?_
    refine lv_iload_n hx hb dJ0_indexOf_7cf53_12 rfl (lv_at hl 2 rfl) ?_
    refine lv_aload_n hx hb dJ0_indexOf_7cf53_13 rfl (lv_at hl 0 rfl) ?_
    obtain ⟨x6, e, hf⟩ := ob hf
    refine q_callVS (As := []) (rest := [.int v2, .int v1, .ref a5]) (st1 := [.int x6, .int v2, .int v1, .ref a5]) (c_J0_length_8abf5 G e) B hw hz hc0 (k_J0_length_8abf5 e) rfl my_J0_length_8abf5 mv_J0_length_8abf5 tw_2_203 ⟨Nat.le_of_ble_eq_true rfl, Nat.le_of_ble_eq_true rfl⟩ ⟨Nat.zero_le _, Nat.zero_le _⟩ rfl hl.1 rfl rfl (Nat.le_of_ble_eq_true rfl) dJ0_indexOf_7cf53_14 (fun H locs hw => ?_)
    obtain ⟨x7, e, hf⟩ := ob hf
    refine q_callS (As := [.ref a5, .int v1, .int v2, .int x6]) (rest := []) (st1 := [.int x7]) (c_J1_indexOf_4cfef G e) B hw hz hc0 my_J1_indexOf_4cfef mv_J1_indexOf_4cfef tw_2_211 ⟨Nat.le_of_ble_eq_true rfl, Nat.le_of_ble_eq_true rfl⟩ ⟨Nat.zero_le _, Nat.zero_le _⟩ rfl hl.1 rfl rfl (Nat.le_of_ble_eq_true rfl) dJ0_indexOf_7cf53_17 (fun H locs hw => ?_)
    refine lv_goto (tgt := 36) hx hb dJ0_indexOf_7cf53_20 (by decide) ?_
    obtain rfl := so hf
    exact q_iret B hw hz hc0 hr hlk dJ0_indexOf_7cf53_36
