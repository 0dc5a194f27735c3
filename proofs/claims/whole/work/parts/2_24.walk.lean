/-! SecondLife.calm(II)I -/
def f_X11_calm_92 (n : Nat) (z : Sh) (h : Hp) (k35 : Nat → Int32 → Int32 → Int32 → Int32 → Int32 → Option (Int32)) (v0 : Nat) (v1 : Int32) (v2 : Int32) (v3 : Int32) (v4 : Int32) (v5 : Int32) : Option (Int32) :=
  (some (v5 + 1)).bind fun x1 =>
  k35 v0 v1 v2 v3 v4 x1
def f_X11_calm_35 (n : Nat) (z : Sh) (h : Hp) : Nat → Nat → Int32 → Int32 → Int32 → Int32 → Int32 → Option (Int32)
  | 0, _, _, _, _, _, _ => none
  | i + 1, v0, v1, v2, v3, v4, v5 =>
    (gR z h 11 v0 4).bind fun a1 =>
    (f_X5_everybody z h a1).bind fun x2 =>
    if x2 < v5 then
      some v3
    else
      (f_J6_bitCount_0f7a4 z h v5).bind fun x4 =>
      if (v5 &&& v1) = 0 then
        if v4 ≤ x4 then
          f_X11_calm_92 n z h (f_X11_calm_35 n z h i) v0 v1 v2 v3 v4 v5
        else
          (gR z h 11 v0 4).bind fun a7 =>
          (f_X5_runOf n z h a7 v1 v5).bind fun x8 =>
          (f_J6_bitCount_0f7a4 z h x8).bind fun x9 =>
          if v2 < x9 then
            f_X11_calm_92 n z h (f_X11_calm_35 n z h i) v0 v1 v2 v3 v4 v5
          else
            f_X11_calm_92 n z h (f_X11_calm_35 n z h i) v0 v1 v2 v5 x4 v5
      else
        f_X11_calm_92 n z h (f_X11_calm_35 n z h i) v0 v1 v2 v3 v4 v5
def f_X11_calm_21 (n : Nat) (z : Sh) (h : Hp) : Option (Int32) :=
  (f_X11_refused z h 3).bind fun x1 =>
  some x1
def f_X11_calm (n : Nat) (z : Sh) (h : Hp) (v0 : Nat) (v1 : Int32) (v2 : Int32) : Option (Int32) :=
  if z.K v0 = 11 then
    (gR z h 11 v0 4).bind fun a1 =>
    (f_X5_isSet z h a1 v1).bind fun x2 =>
    if x2 = 0 then
      f_X11_calm_21 n z h
    else
      if v2 < 0 then
        f_X11_calm_21 n z h
      else
        if v2 ≤ 6 then
          f_X11_calm_35 n z h n v0 v1 v2 (-1) 7 0
        else
          f_X11_calm_21 n z h
  else none
theorem k_X11_calm {n : Nat} {z : Sh} {h : Hp} {v0 : Nat} {v1 : Int32} {v2 : Int32} {w : Int32} (hf : f_X11_calm n z h v0 v1 v2 = some w) : z.K v0 = 11 := by
  unfold f_X11_calm at hf
  exact (if_some hf).1
set_option maxHeartbeats 4000000 in
theorem w_X11_calm_92 {p : Program} {l : Launch} {e : Env} {s : State} {m : MethodId} {args : Array Value} {below : List Frame} {meth : Method} {c : Code} {s0 : State} {E : Ev} {z : Sh} {h : Hp} {n : Nat} {k35 : Nat → Int32 → Int32 → Int32 → Int32 → Int32 → Option (Int32)} {r : Int32} (G : Gl s0 E) (B : Bd p s0 s E m c cX11_calm 7 RX11) (hz : s0.heap.size ≤ z.sz) (hc0 : s.heap.size + 0 = z.sz) (hr : meth.sig.returnType = (some .int)) (hlk : meth.locks = false) (hk35 : ∀ (v0 : Nat) (v1 : Int32) (v2 : Int32) (v3 : Int32) (v4 : Int32) (v5 : Int32) (H : Heap) (locs : List Loc) (ls : Array Slot), Pw s0 s E z h H locs → lv_has ls 7 [(0, .ref v0), (1, .int v1), (2, .int v2), (3, .int v3), (4, .int v4), (5, .int v5)] → k35 v0 v1 v2 v3 v4 v5 = some r → W p l e (rmO 3 73) s m args below meth c H locs 0 0 (Zt below s0 E z h (some (.int r)) args s 0 0) (F0 m 35 ls [])) : ∀ (v0 : Nat) (v1 : Int32) (v2 : Int32) (v3 : Int32) (v4 : Int32) (v5 : Int32) (H : Heap) (locs : List Loc) (ls : Array Slot), Pw s0 s E z h H locs → lv_has ls 7 [(0, .ref v0), (1, .int v1), (2, .int v2), (3, .int v3), (4, .int v4), (5, .int v5)] → f_X11_calm_92 n z h k35 v0 v1 v2 v3 v4 v5 = some r → W p l e (rmO 3 73) s m args below meth c H locs 0 0 (Zt below s0 E z h (some (.int r)) args s 0 0) (F0 m 92 ls []) := by
  have hx := B.1
  have hb := B.2.1
  intro v0 v1 v2 v3 v4 v5 H locs ls hw hl hf
  unfold f_X11_calm_92 at hf
  obtain ⟨x1, e, hf⟩ := ob hf
  refine lv_iinc (v := x1) (lv' := [(5, .int x1), (0, .ref v0), (1, .int v1), (2, .int v2), (3, .int v3), (4, .int v4)]) hx hb dX11_calm_92 hl (k := 5) rfl (Option.some.inj e) (by decide) rfl (fun ls hl => ?_)
  refine lv_goto (tgt := 35) hx hb dX11_calm_95 (by decide) ?_
  exact hk35 v0 v1 v2 v3 v4 x1 _ _ _ hw (lv_sub hl [1, 2, 3, 4, 5, 0] rfl) hf
set_option maxHeartbeats 4000000 in
theorem w_X11_calm_35 {p : Program} {l : Launch} {e : Env} {s : State} {m : MethodId} {args : Array Value} {below : List Frame} {meth : Method} {c : Code} {s0 : State} {E : Ev} {z : Sh} {h : Hp} {n : Nat} {r : Int32} (G : Gl s0 E) (B : Bd p s0 s E m c cX11_calm 7 RX11) (hz : s0.heap.size ≤ z.sz) (hc0 : s.heap.size + 0 = z.sz) (hr : meth.sig.returnType = (some .int)) (hlk : meth.locks = false) : ∀ (i : Nat), ∀ (v0 : Nat) (v1 : Int32) (v2 : Int32) (v3 : Int32) (v4 : Int32) (v5 : Int32) (H : Heap) (locs : List Loc) (ls : Array Slot), Pw s0 s E z h H locs → lv_has ls 7 [(0, .ref v0), (1, .int v1), (2, .int v2), (3, .int v3), (4, .int v4), (5, .int v5)] → f_X11_calm_35 n z h i v0 v1 v2 v3 v4 v5 = some r → W p l e (rmO 3 73) s m args below meth c H locs 0 0 (Zt below s0 E z h (some (.int r)) args s 0 0) (F0 m 35 ls []) := by
  have hx := B.1
  have hb := B.2.1
  intro i
  induction i with
  | zero =>
    intro v0 v1 v2 v3 v4 v5 H locs ls hw hl hf
    have hf := (f_X11_calm_35.eq_1 ..).symm.trans hf
    cases hf
  | succ i ih =>
    intro v0 v1 v2 v3 v4 v5 H locs ls hw hl hf
    have hf := (f_X11_calm_35.eq_2 ..).symm.trans hf
    refine lv_iload hx hb dX11_calm_35 (lv_at hl 5 rfl) ?_
    refine lv_aload_n hx hb dX11_calm_37 rfl (lv_at hl 0 rfl) ?_
    obtain ⟨a1, e, hf⟩ := ob hf
    refine q_getR e B hw fd_11_4.1 fd_11_4.2.1 fd_11_4.2.2.1 fd_11_4.2.2.2.1 fd_11_4.2.2.2.2 rfl tw_2_106 dX11_calm_38 ?_
    obtain ⟨x2, e, hf⟩ := ob hf
    refine q_callVN (As := []) (rest := [.int v5]) (st1 := [.int x2, .int v5]) (c_X5_everybody G e) B hw hz hc0 (k_X5_everybody e) (by decide) (ci := 5) rfl rfl my_X5_everybody mv_X5_everybody tw_5_207 ⟨Nat.le_of_ble_eq_true rfl, Nat.le_of_ble_eq_true rfl⟩ ⟨Nat.zero_le _, Nat.zero_le _⟩ rfl hl.1 rfl rfl (Nat.le_of_ble_eq_true rfl) dX11_calm_41 (fun H locs hw => ?_)
    refine lv_icmp_gt (tgt := 98) hx hb dX11_calm_44 (by decide) (fun c3 => ?_) (fun c3 => ?_)
    · have hf := (if_pos c3).symm.trans hf
      refine lv_iload_n hx hb dX11_calm_98 rfl (lv_at hl 3 rfl) ?_
      obtain rfl := so hf
      exact q_iret B hw hz hc0 hr hlk dX11_calm_99
    · have hf := (if_neg c3).symm.trans hf
      refine lv_iload hx hb dX11_calm_47 (lv_at hl 5 rfl) ?_
      obtain ⟨x4, e, hf⟩ := ob hf
      refine q_callS (As := [.int v5]) (rest := []) (st1 := [.int x4]) (c_J6_bitCount_0f7a4 G e) B hw hz hc0 my_J6_bitCount_0f7a4 mv_J6_bitCount_0f7a4 tw_5_208 ⟨Nat.le_of_ble_eq_true rfl, Nat.le_of_ble_eq_true rfl⟩ ⟨Nat.zero_le _, Nat.zero_le _⟩ rfl hl.1 rfl rfl (Nat.le_of_ble_eq_true rfl) dX11_calm_49 (fun H locs hw => ?_)
      refine lv_istore (lv' := [(6, .int x4), (0, .ref v0), (1, .int v1), (2, .int v2), (3, .int v3), (4, .int v4), (5, .int v5)]) hx hb dX11_calm_52 hl (by decide) rfl (fun ls hl => ?_)
      refine lv_iload hx hb dX11_calm_54 (lv_at hl 6 rfl) ?_
      refine lv_iload_n hx hb dX11_calm_56 rfl (lv_at hl 2 rfl) ?_
      refine lv_iand hx hb dX11_calm_57 ?_
      refine lv_if_ne (tgt := 92) hx hb dX11_calm_58 (by decide) (fun c5 => ?_) (fun c5 => ?_)
      · have hf := (if_neg c5).symm.trans hf
        exact w_X11_calm_92 G B hz hc0 hr hlk ih v0 v1 v2 v3 v4 v5 _ _ _ hw (lv_sub hl [1, 2, 3, 4, 5, 6] rfl) hf
      · have hf := (if_pos c5).symm.trans hf
        refine lv_iload hx hb dX11_calm_61 (lv_at hl 0 rfl) ?_
        refine lv_iload hx hb dX11_calm_63 (lv_at hl 5 rfl) ?_
        refine lv_icmp_ge (tgt := 92) hx hb dX11_calm_65 (by decide) (fun c6 => ?_) (fun c6 => ?_)
        · have hf := (if_pos c6).symm.trans hf
          exact w_X11_calm_92 G B hz hc0 hr hlk ih v0 v1 v2 v3 v4 v5 _ _ _ hw (lv_sub hl [1, 2, 3, 4, 5, 6] rfl) hf
        · have hf := (if_neg c6).symm.trans hf
          refine lv_aload_n hx hb dX11_calm_68 rfl (lv_at hl 1 rfl) ?_
          obtain ⟨a7, e, hf⟩ := ob hf
          refine q_getR e B hw fd_11_4.1 fd_11_4.2.1 fd_11_4.2.2.1 fd_11_4.2.2.2.1 fd_11_4.2.2.2.2 rfl tw_2_106 dX11_calm_69 ?_
          refine lv_iload_n hx hb dX11_calm_72 rfl (lv_at hl 2 rfl) ?_
          refine lv_iload hx hb dX11_calm_73 (lv_at hl 6 rfl) ?_
          obtain ⟨x8, e, hf⟩ := ob hf
          refine q_callVN (As := [.int v1, .int v5]) (rest := []) (st1 := [.int x8]) (c_X5_runOf G e) B hw hz hc0 (k_X5_runOf e) (by decide) (ci := 5) rfl rfl my_X5_runOf mv_X5_runOf tw_5_181 ⟨Nat.le_of_ble_eq_true rfl, Nat.le_of_ble_eq_true rfl⟩ ⟨Nat.zero_le _, Nat.zero_le _⟩ rfl hl.1 rfl rfl (Nat.le_of_ble_eq_true rfl) dX11_calm_75 (fun H locs hw => ?_)
          obtain ⟨x9, e, hf⟩ := ob hf
          refine q_callS (As := [.int x8]) (rest := []) (st1 := [.int x9]) (c_J6_bitCount_0f7a4 G e) B hw hz hc0 my_J6_bitCount_0f7a4 mv_J6_bitCount_0f7a4 tw_5_208 ⟨Nat.le_of_ble_eq_true rfl, Nat.le_of_ble_eq_true rfl⟩ ⟨Nat.zero_le _, Nat.zero_le _⟩ rfl hl.1 rfl rfl (Nat.le_of_ble_eq_true rfl) dX11_calm_78 (fun H locs hw => ?_)
          refine lv_iload_n hx hb dX11_calm_81 rfl (lv_at hl 3 rfl) ?_
          refine lv_icmp_gt (tgt := 92) hx hb dX11_calm_82 (by decide) (fun c10 => ?_) (fun c10 => ?_)
          · have hf := (if_pos c10).symm.trans hf
            exact w_X11_calm_92 G B hz hc0 hr hlk ih v0 v1 v2 v3 v4 v5 _ _ _ hw (lv_sub hl [1, 2, 3, 4, 5, 6] rfl) hf
          · have hf := (if_neg c10).symm.trans hf
            refine lv_iload hx hb dX11_calm_85 (lv_at hl 0 rfl) ?_
            refine lv_istore (lv' := [(4, .int x4), (6, .int x4), (0, .ref v0), (1, .int v1), (2, .int v2), (3, .int v3), (5, .int v5)]) hx hb dX11_calm_87 hl (by decide) rfl (fun ls hl => ?_)
            refine lv_iload hx hb dX11_calm_89 (lv_at hl 6 rfl) ?_
            refine lv_istore_n (lv' := [(3, .int v5), (4, .int x4), (6, .int x4), (0, .ref v0), (1, .int v1), (2, .int v2), (5, .int v5)]) hx hb dX11_calm_91 rfl hl (by decide) rfl (fun ls hl => ?_)
            exact w_X11_calm_92 G B hz hc0 hr hlk ih v0 v1 v2 v5 x4 v5 _ _ _ hw (lv_sub hl [3, 4, 5, 0, 1, 6] rfl) hf
set_option maxHeartbeats 4000000 in
theorem w_X11_calm_21 {p : Program} {l : Launch} {e : Env} {s : State} {m : MethodId} {args : Array Value} {below : List Frame} {meth : Method} {c : Code} {s0 : State} {E : Ev} {z : Sh} {h : Hp} {n : Nat} {r : Int32} (G : Gl s0 E) (B : Bd p s0 s E m c cX11_calm 7 RX11) (hz : s0.heap.size ≤ z.sz) (hc0 : s.heap.size + 0 = z.sz) (hr : meth.sig.returnType = (some .int)) (hlk : meth.locks = false) : ∀ (H : Heap) (locs : List Loc) (ls : Array Slot), Pw s0 s E z h H locs → lv_has ls 7 [] → f_X11_calm_21 n z h = some r → W p l e (rmO 3 73) s m args below meth c H locs 0 0 (Zt below s0 E z h (some (.int r)) args s 0 0) (F0 m 21 ls []) := by
  have hx := B.1
  have hb := B.2.1
  intro  H locs ls hw hl hf
  unfold f_X11_calm_21 at hf
  refine lv_iconst (v := 3) hx hb dX11_calm_21 (by decide) ?_
  obtain ⟨x1, e, hf⟩ := ob hf
  refine q_callS (As := [.int 3]) (rest := []) (st1 := [.int x1]) (c_X11_refused G e) B hw hz hc0 my_X11_refused mv_X11_refused tw_2_155 ⟨Nat.le_of_ble_eq_true rfl, Nat.le_of_ble_eq_true rfl⟩ ⟨Nat.zero_le _, Nat.zero_le _⟩ rfl hl.1 rfl rfl (Nat.le_of_ble_eq_true rfl) dX11_calm_22 (fun H locs hw => ?_)
  obtain rfl := so hf
  exact q_iret B hw hz hc0 hr hlk dX11_calm_25
set_option maxHeartbeats 4000000 in
theorem c_X11_calm {l : Launch} {s0 : State} {E : Ev} (G : Gl s0 E) {n : Nat} {z : Sh} {h : Hp} {v0 : Nat} {v1 : Int32} {v2 : Int32} {r : Int32} (hf : f_X11_calm n z h v0 v1 v2 = some r) : Ct l s0 E yX11_calm cX11_calm 7 (some .int) 3 73 [.ref v0, .int v1, .int v2] z h h (some (.int r)) := by
  refine Ct.of G (by decide) (Nat.le_of_ble_eq_true rfl) ?_
  intro p e s m below meth c ls B hw hz hc0 hr hlk hl
  have B : Bd p s0 s E m c cX11_calm 7 RX11 := B
  have hx := B.1
  have hb := B.2.1
  have hl : lv_has ls 7 [(0, .ref v0), (1, .int v1), (2, .int v2)] := hl
  unfold f_X11_calm at hf
  obtain ⟨_, hf⟩ := if_some hf
  refine lv_aload_n hx hb dX11_calm_0 rfl (lv_at hl 0 rfl) ?_
  obtain ⟨a1, e, hf⟩ := ob hf
  refine q_getR e B hw fd_11_4.1 fd_11_4.2.1 fd_11_4.2.2.1 fd_11_4.2.2.2.1 fd_11_4.2.2.2.2 rfl tw_2_106 dX11_calm_1 ?_
  refine lv_iload_n hx hb dX11_calm_4 rfl (lv_at hl 1 rfl) ?_
  obtain ⟨x2, e, hf⟩ := ob hf
  refine q_callVN (As := [.int v1]) (rest := []) (st1 := [.int x2]) (c_X5_isSet G e) B hw hz hc0 (k_X5_isSet e) (by decide) (ci := 5) rfl rfl my_X5_isSet mv_X5_isSet tw_5_173 ⟨Nat.le_of_ble_eq_true rfl, Nat.le_of_ble_eq_true rfl⟩ ⟨Nat.zero_le _, Nat.zero_le _⟩ rfl hl.1 rfl rfl (Nat.le_of_ble_eq_true rfl) dX11_calm_5 (fun H locs hw => ?_)
  refine lv_if_eq (tgt := 21) hx hb dX11_calm_8 (by decide) (fun c3 => ?_) (fun c3 => ?_)
  · have hf := (if_pos c3).symm.trans hf
    exact w_X11_calm_21 G B hz hc0 hr hlk   _ _ _ hw (lv_sub hl [] rfl) hf
  · have hf := (if_neg c3).symm.trans hf
    refine lv_iload_n hx hb dX11_calm_11 rfl (lv_at hl 2 rfl) ?_
    refine lv_if_lt (tgt := 21) hx hb dX11_calm_12 (by decide) (fun c4 => ?_) (fun c4 => ?_)
    · have hf := (if_pos c4).symm.trans hf
      exact w_X11_calm_21 G B hz hc0 hr hlk   _ _ _ hw (lv_sub hl [] rfl) hf
    · have hf := (if_neg c4).symm.trans hf
      refine lv_iload_n hx hb dX11_calm_15 rfl (lv_at hl 2 rfl) ?_
      refine lv_bipush (v := 6) hx hb dX11_calm_16 (by decide) ?_
      refine lv_icmp_le (tgt := 26) hx hb dX11_calm_18 (by decide) (fun c5 => ?_) (fun c5 => ?_)
      · have hf := (if_pos c5).symm.trans hf
        refine lv_iconst (v := (-1)) hx hb dX11_calm_26 (by decide) ?_
        refine lv_istore_n (lv' := [(3, .int (-1)), (0, .ref v0), (1, .int v1), (2, .int v2)]) hx hb dX11_calm_27 rfl hl (by decide) rfl (fun ls hl => ?_)
        refine lv_bipush (v := 7) hx hb dX11_calm_28 (by decide) ?_
        refine lv_istore (lv' := [(4, .int 7), (3, .int (-1)), (0, .ref v0), (1, .int v1), (2, .int v2)]) hx hb dX11_calm_30 hl (by decide) rfl (fun ls hl => ?_)
        refine lv_iconst (v := 0) hx hb dX11_calm_32 (by decide) ?_
        refine lv_istore (lv' := [(5, .int 0), (4, .int 7), (3, .int (-1)), (0, .ref v0), (1, .int v1), (2, .int v2)]) hx hb dX11_calm_33 hl (by decide) rfl (fun ls hl => ?_)
        exact w_X11_calm_35 G B hz hc0 hr hlk  n v0 v1 v2 (-1) 7 0 _ _ _ hw (lv_sub hl [3, 4, 5, 2, 1, 0] rfl) hf
      · have hf := (if_neg c5).symm.trans hf
        exact w_X11_calm_21 G B hz hc0 hr hlk   _ _ _ hw (lv_sub hl [] rfl) hf
/-! SecondLife.rests()I -/
def f_X11_rests_29 (n : Nat) (z : Sh) (h : Hp) (k4 : Nat → Int32 → Int32 → Option (Int32)) (v0 : Nat) (v1 : Int32) (v2 : Int32) : Option (Int32) :=
  (some (v2 + 1)).bind fun x1 =>
  k4 v0 v1 x1
def f_X11_rests_4 (n : Nat) (z : Sh) (h : Hp) : Nat → Nat → Int32 → Int32 → Option (Int32)
  | 0, _, _, _ => none
  | i + 1, v0, v1, v2 =>
    (gR z h 11 v0 4).bind fun a1 =>
    (f_X5_everybody z h a1).bind fun x2 =>
    if x2 < v2 then
      some v1
    else
      (gR z h 11 v0 4).bind fun a4 =>
      (f_X5_atRest n z h a4 v2).bind fun x5 =>
      if x5 = 0 then
        f_X11_rests_29 n z h (f_X11_rests_4 n z h i) v0 v1 v2
      else
        (some (v1 + 1)).bind fun x7 =>
        f_X11_rests_29 n z h (f_X11_rests_4 n z h i) v0 x7 v2
def f_X11_rests (n : Nat) (z : Sh) (h : Hp) (v0 : Nat) : Option (Int32) :=
  if z.K v0 = 11 then
    f_X11_rests_4 n z h n v0 0 0
  else none
theorem k_X11_rests {n : Nat} {z : Sh} {h : Hp} {v0 : Nat} {w : Int32} (hf : f_X11_rests n z h v0 = some w) : z.K v0 = 11 := by
  unfold f_X11_rests at hf
  exact (if_some hf).1
set_option maxHeartbeats 4000000 in
theorem w_X11_rests_29 {p : Program} {l : Launch} {e : Env} {s : State} {m : MethodId} {args : Array Value} {below : List Frame} {meth : Method} {c : Code} {s0 : State} {E : Ev} {z : Sh} {h : Hp} {n : Nat} {k4 : Nat → Int32 → Int32 → Option (Int32)} {r : Int32} (G : Gl s0 E) (B : Bd p s0 s E m c cX11_rests 3 RX11) (hz : s0.heap.size ≤ z.sz) (hc0 : s.heap.size + 0 = z.sz) (hr : meth.sig.returnType = (some .int)) (hlk : meth.locks = false) (hk4 : ∀ (v0 : Nat) (v1 : Int32) (v2 : Int32) (H : Heap) (locs : List Loc) (ls : Array Slot), Pw s0 s E z h H locs → lv_has ls 3 [(0, .ref v0), (1, .int v1), (2, .int v2)] → k4 v0 v1 v2 = some r → W p l e (rmO 2 48) s m args below meth c H locs 0 0 (Zt below s0 E z h (some (.int r)) args s 0 0) (F0 m 4 ls [])) : ∀ (v0 : Nat) (v1 : Int32) (v2 : Int32) (H : Heap) (locs : List Loc) (ls : Array Slot), Pw s0 s E z h H locs → lv_has ls 3 [(0, .ref v0), (1, .int v1), (2, .int v2)] → f_X11_rests_29 n z h k4 v0 v1 v2 = some r → W p l e (rmO 2 48) s m args below meth c H locs 0 0 (Zt below s0 E z h (some (.int r)) args s 0 0) (F0 m 29 ls []) := by
  have hx := B.1
  have hb := B.2.1
  intro v0 v1 v2 H locs ls hw hl hf
  unfold f_X11_rests_29 at hf
  obtain ⟨x1, e, hf⟩ := ob hf
  refine lv_iinc (v := x1) (lv' := [(2, .int x1), (0, .ref v0), (1, .int v1)]) hx hb dX11_rests_29 hl (k := 2) rfl (Option.some.inj e) (by decide) rfl (fun ls hl => ?_)
  refine lv_goto (tgt := 4) hx hb dX11_rests_32 (by decide) ?_
  exact hk4 v0 v1 x1 _ _ _ hw (lv_sub hl [1, 2, 0] rfl) hf
set_option maxHeartbeats 4000000 in
theorem w_X11_rests_4 {p : Program} {l : Launch} {e : Env} {s : State} {m : MethodId} {args : Array Value} {below : List Frame} {meth : Method} {c : Code} {s0 : State} {E : Ev} {z : Sh} {h : Hp} {n : Nat} {r : Int32} (G : Gl s0 E) (B : Bd p s0 s E m c cX11_rests 3 RX11) (hz : s0.heap.size ≤ z.sz) (hc0 : s.heap.size + 0 = z.sz) (hr : meth.sig.returnType = (some .int)) (hlk : meth.locks = false) : ∀ (i : Nat), ∀ (v0 : Nat) (v1 : Int32) (v2 : Int32) (H : Heap) (locs : List Loc) (ls : Array Slot), Pw s0 s E z h H locs → lv_has ls 3 [(0, .ref v0), (1, .int v1), (2, .int v2)] → f_X11_rests_4 n z h i v0 v1 v2 = some r → W p l e (rmO 2 48) s m args below meth c H locs 0 0 (Zt below s0 E z h (some (.int r)) args s 0 0) (F0 m 4 ls []) := by
  have hx := B.1
  have hb := B.2.1
  intro i
  induction i with
  | zero =>
    intro v0 v1 v2 H locs ls hw hl hf
    have hf := (f_X11_rests_4.eq_1 ..).symm.trans hf
    cases hf
  | succ i ih =>
    intro v0 v1 v2 H locs ls hw hl hf
    have hf := (f_X11_rests_4.eq_2 ..).symm.trans hf
    refine lv_iload_n hx hb dX11_rests_4 rfl (lv_at hl 2 rfl) ?_
    refine lv_aload_n hx hb dX11_rests_5 rfl (lv_at hl 0 rfl) ?_
    obtain ⟨a1, e, hf⟩ := ob hf
    refine q_getR e B hw fd_11_4.1 fd_11_4.2.1 fd_11_4.2.2.1 fd_11_4.2.2.2.1 fd_11_4.2.2.2.2 rfl tw_2_106 dX11_rests_6 ?_
    obtain ⟨x2, e, hf⟩ := ob hf
    refine q_callVN (As := []) (rest := [.int v2]) (st1 := [.int x2, .int v2]) (c_X5_everybody G e) B hw hz hc0 (k_X5_everybody e) (by decide) (ci := 5) rfl rfl my_X5_everybody mv_X5_everybody tw_5_207 ⟨Nat.le_of_ble_eq_true rfl, Nat.le_of_ble_eq_true rfl⟩ ⟨Nat.zero_le _, Nat.zero_le _⟩ rfl hl.1 rfl rfl (Nat.le_of_ble_eq_true rfl) dX11_rests_9 (fun H locs hw => ?_)
    refine lv_icmp_gt (tgt := 35) hx hb dX11_rests_12 (by decide) (fun c3 => ?_) (fun c3 => ?_)
    · have hf := (if_pos c3).symm.trans hf
      refine lv_iload_n hx hb dX11_rests_35 rfl (lv_at hl 1 rfl) ?_
      obtain rfl := so hf
      exact q_iret B hw hz hc0 hr hlk dX11_rests_36
    · have hf := (if_neg c3).symm.trans hf
      refine lv_aload_n hx hb dX11_rests_15 rfl (lv_at hl 0 rfl) ?_
      obtain ⟨a4, e, hf⟩ := ob hf
      refine q_getR e B hw fd_11_4.1 fd_11_4.2.1 fd_11_4.2.2.1 fd_11_4.2.2.2.1 fd_11_4.2.2.2.2 rfl tw_2_106 dX11_rests_16 ?_
      refine lv_iload_n hx hb dX11_rests_19 rfl (lv_at hl 2 rfl) ?_
      obtain ⟨x5, e, hf⟩ := ob hf
      refine q_callVN (As := [.int v2]) (rest := []) (st1 := [.int x5]) (c_X5_atRest G e) B hw hz hc0 (k_X5_atRest e) (by decide) (ci := 5) rfl rfl my_X5_atRest mv_X5_atRest tw_5_217 ⟨Nat.le_of_ble_eq_true rfl, Nat.le_of_ble_eq_true rfl⟩ ⟨Nat.zero_le _, Nat.zero_le _⟩ rfl hl.1 rfl rfl (Nat.le_of_ble_eq_true rfl) dX11_rests_20 (fun H locs hw => ?_)
      refine lv_if_eq (tgt := 29) hx hb dX11_rests_23 (by decide) (fun c6 => ?_) (fun c6 => ?_)
      · have hf := (if_pos c6).symm.trans hf
        exact w_X11_rests_29 G B hz hc0 hr hlk ih v0 v1 v2 _ _ _ hw (lv_sub hl [0, 1, 2] rfl) hf
      · have hf := (if_neg c6).symm.trans hf
        obtain ⟨x7, e, hf⟩ := ob hf
        refine lv_iinc (v := x7) (lv' := [(1, .int x7), (0, .ref v0), (2, .int v2)]) hx hb dX11_rests_26 hl (k := 1) rfl (Option.some.inj e) (by decide) rfl (fun ls hl => ?_)
        exact w_X11_rests_29 G B hz hc0 hr hlk ih v0 x7 v2 _ _ _ hw (lv_sub hl [1, 0, 2] rfl) hf
set_option maxHeartbeats 4000000 in
theorem c_X11_rests {l : Launch} {s0 : State} {E : Ev} (G : Gl s0 E) {n : Nat} {z : Sh} {h : Hp} {v0 : Nat} {r : Int32} (hf : f_X11_rests n z h v0 = some r) : Ct l s0 E yX11_rests cX11_rests 3 (some .int) 2 48 [.ref v0] z h h (some (.int r)) := by
  refine Ct.of G (by decide) (Nat.le_of_ble_eq_true rfl) ?_
  intro p e s m below meth c ls B hw hz hc0 hr hlk hl
  have B : Bd p s0 s E m c cX11_rests 3 RX11 := B
  have hx := B.1
  have hb := B.2.1
  have hl : lv_has ls 3 [(0, .ref v0)] := hl
  unfold f_X11_rests at hf
  obtain ⟨_, hf⟩ := if_some hf
  refine lv_iconst (v := 0) hx hb dX11_rests_0 (by decide) ?_
  refine lv_istore_n (lv' := [(1, .int 0), (0, .ref v0)]) hx hb dX11_rests_1 rfl hl (by decide) rfl (fun ls hl => ?_)
  refine lv_iconst (v := 0) hx hb dX11_rests_2 (by decide) ?_
  refine lv_istore_n (lv' := [(2, .int 0), (1, .int 0), (0, .ref v0)]) hx hb dX11_rests_3 rfl hl (by decide) rfl (fun ls hl => ?_)
  exact w_X11_rests_4 G B hz hc0 hr hlk  n v0 0 0 _ _ _ hw (lv_sub hl [2, 1, 0] rfl) hf
/-! SecondLife.rest(I)I -/
def f_X11_rest_45 (n : Nat) (z : Sh) (h : Hp) (k13 : Nat → Int32 → Int32 → Int32 → Option (Int32)) (v0 : Nat) (v1 : Int32) (v2 : Int32) (v3 : Int32) : Option (Int32) :=
  (some (v3 + 1)).bind fun x1 =>
  k13 v0 v1 v2 x1
def f_X11_rest_13 (n : Nat) (z : Sh) (h : Hp) : Nat → Nat → Int32 → Int32 → Int32 → Option (Int32)
  | 0, _, _, _, _ => none
  | i + 1, v0, v1, v2, v3 =>
    (gR z h 11 v0 4).bind fun a1 =>
    (f_X5_everybody z h a1).bind fun x2 =>
    if x2 < v3 then
      some ((-1) : Int32)
    else
      (gR z h 11 v0 4).bind fun a4 =>
      (f_X5_atRest n z h a4 v3).bind fun x5 =>
      if x5 = 0 then
        f_X11_rest_45 n z h (f_X11_rest_13 n z h i) v0 v1 v2 v3
      else
        if v2 = v1 then
          some v3
        else
          (some (v2 + 1)).bind fun x8 =>
          f_X11_rest_45 n z h (f_X11_rest_13 n z h i) v0 v1 x8 v3
def f_X11_rest (n : Nat) (z : Sh) (h : Hp) (v0 : Nat) (v1 : Int32) : Option (Int32) :=
  if z.K v0 = 11 then
    if 0 ≤ v1 then
      f_X11_rest_13 n z h n v0 v1 0 0
    else
      (f_X11_refused z h 3).bind fun x2 =>
      some x2
  else none
theorem k_X11_rest {n : Nat} {z : Sh} {h : Hp} {v0 : Nat} {v1 : Int32} {w : Int32} (hf : f_X11_rest n z h v0 v1 = some w) : z.K v0 = 11 := by
  unfold f_X11_rest at hf
  exact (if_some hf).1
set_option maxHeartbeats 4000000 in
theorem w_X11_rest_45 {p : Program} {l : Launch} {e : Env} {s : State} {m : MethodId} {args : Array Value} {below : List Frame} {meth : Method} {c : Code} {s0 : State} {E : Ev} {z : Sh} {h : Hp} {n : Nat} {k13 : Nat → Int32 → Int32 → Int32 → Option (Int32)} {r : Int32} (G : Gl s0 E) (B : Bd p s0 s E m c cX11_rest 4 RX11) (hz : s0.heap.size ≤ z.sz) (hc0 : s.heap.size + 0 = z.sz) (hr : meth.sig.returnType = (some .int)) (hlk : meth.locks = false) (hk13 : ∀ (v0 : Nat) (v1 : Int32) (v2 : Int32) (v3 : Int32) (H : Heap) (locs : List Loc) (ls : Array Slot), Pw s0 s E z h H locs → lv_has ls 4 [(0, .ref v0), (1, .int v1), (2, .int v2), (3, .int v3)] → k13 v0 v1 v2 v3 = some r → W p l e (rmO 2 48) s m args below meth c H locs 0 0 (Zt below s0 E z h (some (.int r)) args s 0 0) (F0 m 13 ls [])) : ∀ (v0 : Nat) (v1 : Int32) (v2 : Int32) (v3 : Int32) (H : Heap) (locs : List Loc) (ls : Array Slot), Pw s0 s E z h H locs → lv_has ls 4 [(0, .ref v0), (1, .int v1), (2, .int v2), (3, .int v3)] → f_X11_rest_45 n z h k13 v0 v1 v2 v3 = some r → W p l e (rmO 2 48) s m args below meth c H locs 0 0 (Zt below s0 E z h (some (.int r)) args s 0 0) (F0 m 45 ls []) := by
  have hx := B.1
  have hb := B.2.1
  intro v0 v1 v2 v3 H locs ls hw hl hf
  unfold f_X11_rest_45 at hf
  obtain ⟨x1, e, hf⟩ := ob hf
  refine lv_iinc (v := x1) (lv' := [(3, .int x1), (0, .ref v0), (1, .int v1), (2, .int v2)]) hx hb dX11_rest_45 hl (k := 3) rfl (Option.some.inj e) (by decide) rfl (fun ls hl => ?_)
  refine lv_goto (tgt := 13) hx hb dX11_rest_48 (by decide) ?_
  exact hk13 v0 v1 v2 x1 _ _ _ hw (lv_sub hl [1, 2, 3, 0] rfl) hf
set_option maxHeartbeats 4000000 in
theorem w_X11_rest_13 {p : Program} {l : Launch} {e : Env} {s : State} {m : MethodId} {args : Array Value} {below : List Frame} {meth : Method} {c : Code} {s0 : State} {E : Ev} {z : Sh} {h : Hp} {n : Nat} {r : Int32} (G : Gl s0 E) (B : Bd p s0 s E m c cX11_rest 4 RX11) (hz : s0.heap.size ≤ z.sz) (hc0 : s.heap.size + 0 = z.sz) (hr : meth.sig.returnType = (some .int)) (hlk : meth.locks = false) : ∀ (i : Nat), ∀ (v0 : Nat) (v1 : Int32) (v2 : Int32) (v3 : Int32) (H : Heap) (locs : List Loc) (ls : Array Slot), Pw s0 s E z h H locs → lv_has ls 4 [(0, .ref v0), (1, .int v1), (2, .int v2), (3, .int v3)] → f_X11_rest_13 n z h i v0 v1 v2 v3 = some r → W p l e (rmO 2 48) s m args below meth c H locs 0 0 (Zt below s0 E z h (some (.int r)) args s 0 0) (F0 m 13 ls []) := by
  have hx := B.1
  have hb := B.2.1
  intro i
  induction i with
  | zero =>
    intro v0 v1 v2 v3 H locs ls hw hl hf
    have hf := (f_X11_rest_13.eq_1 ..).symm.trans hf
    cases hf
  | succ i ih =>
    intro v0 v1 v2 v3 H locs ls hw hl hf
    have hf := (f_X11_rest_13.eq_2 ..).symm.trans hf
    refine lv_iload_n hx hb dX11_rest_13 rfl (lv_at hl 3 rfl) ?_
    refine lv_aload_n hx hb dX11_rest_14 rfl (lv_at hl 0 rfl) ?_
    obtain ⟨a1, e, hf⟩ := ob hf
    refine q_getR e B hw fd_11_4.1 fd_11_4.2.1 fd_11_4.2.2.1 fd_11_4.2.2.2.1 fd_11_4.2.2.2.2 rfl tw_2_106 dX11_rest_15 ?_
    obtain ⟨x2, e, hf⟩ := ob hf
    refine q_callVN (As := []) (rest := [.int v3]) (st1 := [.int x2, .int v3]) (c_X5_everybody G e) B hw hz hc0 (k_X5_everybody e) (by decide) (ci := 5) rfl rfl my_X5_everybody mv_X5_everybody tw_5_207 ⟨Nat.le_of_ble_eq_true rfl, Nat.le_of_ble_eq_true rfl⟩ ⟨Nat.zero_le _, Nat.zero_le _⟩ rfl hl.1 rfl rfl (Nat.le_of_ble_eq_true rfl) dX11_rest_18 (fun H locs hw => ?_)
    refine lv_icmp_gt (tgt := 51) hx hb dX11_rest_21 (by decide) (fun c3 => ?_) (fun c3 => ?_)
    · have hf := (if_pos c3).symm.trans hf
      refine lv_iconst (v := (-1)) hx hb dX11_rest_51 (by decide) ?_
      obtain rfl := so hf
      exact q_iret B hw hz hc0 hr hlk dX11_rest_52
    · have hf := (if_neg c3).symm.trans hf
      refine lv_aload_n hx hb dX11_rest_24 rfl (lv_at hl 0 rfl) ?_
      obtain ⟨a4, e, hf⟩ := ob hf
      refine q_getR e B hw fd_11_4.1 fd_11_4.2.1 fd_11_4.2.2.1 fd_11_4.2.2.2.1 fd_11_4.2.2.2.2 rfl tw_2_106 dX11_rest_25 ?_
      refine lv_iload_n hx hb dX11_rest_28 rfl (lv_at hl 3 rfl) ?_
      obtain ⟨x5, e, hf⟩ := ob hf
      refine q_callVN (As := [.int v3]) (rest := []) (st1 := [.int x5]) (c_X5_atRest G e) B hw hz hc0 (k_X5_atRest e) (by decide) (ci := 5) rfl rfl my_X5_atRest mv_X5_atRest tw_5_217 ⟨Nat.le_of_ble_eq_true rfl, Nat.le_of_ble_eq_true rfl⟩ ⟨Nat.zero_le _, Nat.zero_le _⟩ rfl hl.1 rfl rfl (Nat.le_of_ble_eq_true rfl) dX11_rest_29 (fun H locs hw => ?_)
      refine lv_if_eq (tgt := 45) hx hb dX11_rest_32 (by decide) (fun c6 => ?_) (fun c6 => ?_)
      · have hf := (if_pos c6).symm.trans hf
        exact w_X11_rest_45 G B hz hc0 hr hlk ih v0 v1 v2 v3 _ _ _ hw (lv_sub hl [0, 1, 2, 3] rfl) hf
      · have hf := (if_neg c6).symm.trans hf
        refine lv_iload_n hx hb dX11_rest_35 rfl (lv_at hl 2 rfl) ?_
        refine lv_iload_n hx hb dX11_rest_36 rfl (lv_at hl 1 rfl) ?_
        refine lv_icmp_ne (tgt := 42) hx hb dX11_rest_37 (by decide) (fun c7 => ?_) (fun c7 => ?_)
        · have hf := (if_neg c7).symm.trans hf
          obtain ⟨x8, e, hf⟩ := ob hf
          refine lv_iinc (v := x8) (lv' := [(2, .int x8), (0, .ref v0), (1, .int v1), (3, .int v3)]) hx hb dX11_rest_42 hl (k := 2) rfl (Option.some.inj e) (by decide) rfl (fun ls hl => ?_)
          exact w_X11_rest_45 G B hz hc0 hr hlk ih v0 v1 x8 v3 _ _ _ hw (lv_sub hl [1, 2, 0, 3] rfl) hf
        · have hf := (if_pos c7).symm.trans hf
          refine lv_iload_n hx hb dX11_rest_40 rfl (lv_at hl 3 rfl) ?_
          obtain rfl := so hf
          exact q_iret B hw hz hc0 hr hlk dX11_rest_41
set_option maxHeartbeats 4000000 in
theorem c_X11_rest {l : Launch} {s0 : State} {E : Ev} (G : Gl s0 E) {n : Nat} {z : Sh} {h : Hp} {v0 : Nat} {v1 : Int32} {r : Int32} (hf : f_X11_rest n z h v0 v1 = some r) : Ct l s0 E yX11_rest cX11_rest 4 (some .int) 2 48 [.ref v0, .int v1] z h h (some (.int r)) := by
  refine Ct.of G (by decide) (Nat.le_of_ble_eq_true rfl) ?_
  intro p e s m below meth c ls B hw hz hc0 hr hlk hl
  have B : Bd p s0 s E m c cX11_rest 4 RX11 := B
  have hx := B.1
  have hb := B.2.1
  have hl : lv_has ls 4 [(0, .ref v0), (1, .int v1)] := hl
  unfold f_X11_rest at hf
  obtain ⟨_, hf⟩ := if_some hf
  refine lv_iload_n hx hb dX11_rest_0 rfl (lv_at hl 1 rfl) ?_
  refine lv_if_ge (tgt := 9) hx hb dX11_rest_1 (by decide) (fun c1 => ?_) (fun c1 => ?_)
  · have hf := (if_pos c1).symm.trans hf
    refine lv_iconst (v := 0) hx hb dX11_rest_9 (by decide) ?_
    refine lv_istore_n (lv' := [(2, .int 0), (0, .ref v0), (1, .int v1)]) hx hb dX11_rest_10 rfl hl (by decide) rfl (fun ls hl => ?_)
    refine lv_iconst (v := 0) hx hb dX11_rest_11 (by decide) ?_
    refine lv_istore_n (lv' := [(3, .int 0), (2, .int 0), (0, .ref v0), (1, .int v1)]) hx hb dX11_rest_12 rfl hl (by decide) rfl (fun ls hl => ?_)
    exact w_X11_rest_13 G B hz hc0 hr hlk  n v0 v1 0 0 _ _ _ hw (lv_sub hl [2, 3, 1, 0] rfl) hf
  · have hf := (if_neg c1).symm.trans hf
    refine lv_iconst (v := 3) hx hb dX11_rest_4 (by decide) ?_
    obtain ⟨x2, e, hf⟩ := ob hf
    refine q_callS (As := [.int 3]) (rest := []) (st1 := [.int x2]) (c_X11_refused G e) B hw hz hc0 my_X11_refused mv_X11_refused tw_2_155 ⟨Nat.le_of_ble_eq_true rfl, Nat.le_of_ble_eq_true rfl⟩ ⟨Nat.zero_le _, Nat.zero_le _⟩ rfl hl.1 rfl rfl (Nat.le_of_ble_eq_true rfl) dX11_rest_5 (fun H locs hw => ?_)
    obtain rfl := so hf
    exact q_iret B hw hz hc0 hr hlk dX11_rest_8
/-! SecondLife.numbers(III)I -/
def f_X11_numbers_36 (n : Nat) (z : Sh) (h : Hp) : Option (Int32 × Hp) :=
  (f_X11_refused z h 3).bind fun x1 =>
  some (x1, h)
def f_X11_numbers_21 (n : Nat) (z : Sh) (h : Hp) : Option (Int32 × Hp) :=
  (f_X11_refused z h 2).bind fun x1 =>
  some (x1, h)
def f_X11_numbers (n : Nat) (z : Sh) (h : Hp) (v0 : Nat) (v1 : Int32) (v2 : Int32) (v3 : Int32) : Option (Int32 × Hp) :=
  if z.K v0 = 11 then
    (f_X11_trayAt z h v0 v1).bind fun o1 =>
    (match o1 with
    | none =>
      f_X11_numbers_21 n z h
    | some a2 =>
      if v2 < 0 then
        f_X11_numbers_21 n z h
      else
        if v2 ≤ 3 then
          if v3 < 0 then
            f_X11_numbers_36 n z h
          else
            if v3 ≤ 40 then
              (f_X9_make n z h a2 v2 v3).bind fun h7 =>
              some ((0 : Int32), h7)
            else
              f_X11_numbers_36 n z h
        else
          f_X11_numbers_21 n z h)
  else none
theorem k_X11_numbers {n : Nat} {z : Sh} {h : Hp} {v0 : Nat} {v1 : Int32} {v2 : Int32} {v3 : Int32} {w : Int32 × Hp} (hf : f_X11_numbers n z h v0 v1 v2 v3 = some w) : z.K v0 = 11 := by
  unfold f_X11_numbers at hf
  exact (if_some hf).1
set_option maxHeartbeats 4000000 in
theorem w_X11_numbers_36 {p : Program} {l : Launch} {e : Env} {s : State} {m : MethodId} {args : Array Value} {below : List Frame} {meth : Method} {c : Code} {s0 : State} {E : Ev} {z : Sh} {n : Nat} {r : Int32} {h' : Hp} (G : Gl s0 E) (B : Bd p s0 s E m c cX11_numbers 5 RX11) (hz : s0.heap.size ≤ z.sz) (hc0 : s.heap.size + 0 = z.sz) (hr : meth.sig.returnType = (some .int)) (hlk : meth.locks = false) : ∀ (h : Hp) (H : Heap) (locs : List Loc) (ls : Array Slot), Pw s0 s E z h H locs → lv_has ls 5 [] → f_X11_numbers_36 n z h = some (r, h') → W p l e (rmO 2 46) s m args below meth c H locs 0 0 (Zt below s0 E z h' (some (.int r)) args s 0 0) (F0 m 36 ls []) := by
  have hx := B.1
  have hb := B.2.1
  intro h H locs ls hw hl hf
  unfold f_X11_numbers_36 at hf
  refine lv_iconst (v := 3) hx hb dX11_numbers_36 (by decide) ?_
  obtain ⟨x1, e, hf⟩ := ob hf
  refine q_callS (As := [.int 3]) (rest := []) (st1 := [.int x1]) (c_X11_refused G e) B hw hz hc0 my_X11_refused mv_X11_refused tw_2_155 ⟨Nat.le_of_ble_eq_true rfl, Nat.le_of_ble_eq_true rfl⟩ ⟨Nat.zero_le _, Nat.zero_le _⟩ rfl hl.1 rfl rfl (Nat.le_of_ble_eq_true rfl) dX11_numbers_37 (fun H locs hw => ?_)
  obtain ⟨rfl, rfl⟩ := so2 hf
  exact q_iret B hw hz hc0 hr hlk dX11_numbers_40
set_option maxHeartbeats 4000000 in
theorem w_X11_numbers_21 {p : Program} {l : Launch} {e : Env} {s : State} {m : MethodId} {args : Array Value} {below : List Frame} {meth : Method} {c : Code} {s0 : State} {E : Ev} {z : Sh} {n : Nat} {r : Int32} {h' : Hp} (G : Gl s0 E) (B : Bd p s0 s E m c cX11_numbers 5 RX11) (hz : s0.heap.size ≤ z.sz) (hc0 : s.heap.size + 0 = z.sz) (hr : meth.sig.returnType = (some .int)) (hlk : meth.locks = false) : ∀ (h : Hp) (H : Heap) (locs : List Loc) (ls : Array Slot), Pw s0 s E z h H locs → lv_has ls 5 [] → f_X11_numbers_21 n z h = some (r, h') → W p l e (rmO 2 46) s m args below meth c H locs 0 0 (Zt below s0 E z h' (some (.int r)) args s 0 0) (F0 m 21 ls []) := by
  have hx := B.1
  have hb := B.2.1
  intro h H locs ls hw hl hf
  unfold f_X11_numbers_21 at hf
  refine lv_iconst (v := 2) hx hb dX11_numbers_21 (by decide) ?_
  obtain ⟨x1, e, hf⟩ := ob hf
  refine q_callS (As := [.int 2]) (rest := []) (st1 := [.int x1]) (c_X11_refused G e) B hw hz hc0 my_X11_refused mv_X11_refused tw_2_155 ⟨Nat.le_of_ble_eq_true rfl, Nat.le_of_ble_eq_true rfl⟩ ⟨Nat.zero_le _, Nat.zero_le _⟩ rfl hl.1 rfl rfl (Nat.le_of_ble_eq_true rfl) dX11_numbers_22 (fun H locs hw => ?_)
  obtain ⟨rfl, rfl⟩ := so2 hf
  exact q_iret B hw hz hc0 hr hlk dX11_numbers_25
set_option maxHeartbeats 4000000 in
theorem c_X11_numbers {l : Launch} {s0 : State} {E : Ev} (G : Gl s0 E) {n : Nat} {z : Sh} {h : Hp} {v0 : Nat} {v1 : Int32} {v2 : Int32} {v3 : Int32} {r : Int32} {h' : Hp} (hf : f_X11_numbers n z h v0 v1 v2 v3 = some (r, h')) : Ct l s0 E yX11_numbers cX11_numbers 5 (some .int) 2 46 [.ref v0, .int v1, .int v2, .int v3] z h h' (some (.int r)) := by
  refine Ct.of G (by decide) (Nat.le_of_ble_eq_true rfl) ?_
  intro p e s m below meth c ls B hw hz hc0 hr hlk hl
  have B : Bd p s0 s E m c cX11_numbers 5 RX11 := B
  have hx := B.1
  have hb := B.2.1
  have hl : lv_has ls 5 [(0, .ref v0), (1, .int v1), (2, .int v2), (3, .int v3)] := hl
  unfold f_X11_numbers at hf
  obtain ⟨_, hf⟩ := if_some hf
  refine lv_aload_n hx hb dX11_numbers_0 rfl (lv_at hl 0 rfl) ?_
  refine lv_iload_n hx hb dX11_numbers_1 rfl (lv_at hl 1 rfl) ?_
  obtain ⟨o1, e, hf⟩ := ob hf
  refine q_callV (As := [.int v1]) (rest := []) (st1 := [va_rf o1]) (c_X11_trayAt G e) B hw hz hc0 (k_X11_trayAt e) (by decide) (ci := 11) rfl rfl my_X11_trayAt mv_X11_trayAt tw_4_91 ⟨Nat.le_of_ble_eq_true rfl, Nat.le_of_ble_eq_true rfl⟩ ⟨Nat.zero_le _, Nat.zero_le _⟩ rfl hl.1 rfl rfl (Nat.le_of_ble_eq_true rfl) dX11_numbers_2 (fun H locs hw => ?_)
  rcases o1 with _ | a2
  · refine lv_astoreN (lv' := [(4, .null), (0, .ref v0), (1, .int v1), (2, .int v2), (3, .int v3)]) hx hb dX11_numbers_5 hl (by decide) rfl (fun ls hl => ?_)
    refine lv_aloadN hx hb dX11_numbers_7 (lv_at hl 0 rfl) ?_
    refine lv_ifnullN (tgt := 21) hx hb dX11_numbers_9 (by decide) ?_
    exact w_X11_numbers_21 G B hz hc0 hr hlk  h _ _ _ hw (lv_sub hl [] rfl) hf
  · refine lv_astore (lv' := [(4, .ref a2), (0, .ref v0), (1, .int v1), (2, .int v2), (3, .int v3)]) hx hb dX11_numbers_5 hl (by decide) rfl (fun ls hl => ?_)
    refine lv_aload hx hb dX11_numbers_7 (lv_at hl 0 rfl) ?_
    refine lv_ifnull hx hb dX11_numbers_9 ?_
    refine lv_iload_n hx hb dX11_numbers_12 rfl (lv_at hl 3 rfl) ?_
    refine lv_if_lt (tgt := 21) hx hb dX11_numbers_13 (by decide) (fun c3 => ?_) (fun c3 => ?_)
    · have hf := (if_pos c3).symm.trans hf
      exact w_X11_numbers_21 G B hz hc0 hr hlk  h _ _ _ hw (lv_sub hl [] rfl) hf
    · have hf := (if_neg c3).symm.trans hf
      refine lv_iload_n hx hb dX11_numbers_16 rfl (lv_at hl 3 rfl) ?_
      refine lv_iconst (v := 3) hx hb dX11_numbers_17 (by decide) ?_
      refine lv_icmp_le (tgt := 26) hx hb dX11_numbers_18 (by decide) (fun c4 => ?_) (fun c4 => ?_)
      · have hf := (if_pos c4).symm.trans hf
        refine lv_iload_n hx hb dX11_numbers_26 rfl (lv_at hl 4 rfl) ?_
        refine lv_if_lt (tgt := 36) hx hb dX11_numbers_27 (by decide) (fun c5 => ?_) (fun c5 => ?_)
        · have hf := (if_pos c5).symm.trans hf
          exact w_X11_numbers_36 G B hz hc0 hr hlk  h _ _ _ hw (lv_sub hl [] rfl) hf
        · have hf := (if_neg c5).symm.trans hf
          refine lv_iload_n hx hb dX11_numbers_30 rfl (lv_at hl 4 rfl) ?_
          refine lv_bipush (v := 40) hx hb dX11_numbers_31 (by decide) ?_
          refine lv_icmp_le (tgt := 41) hx hb dX11_numbers_33 (by decide) (fun c6 => ?_) (fun c6 => ?_)
          · have hf := (if_pos c6).symm.trans hf
            refine lv_aload hx hb dX11_numbers_41 (lv_at hl 0 rfl) ?_
            refine lv_iload_n hx hb dX11_numbers_43 rfl (lv_at hl 3 rfl) ?_
            refine lv_iload_n hx hb dX11_numbers_44 rfl (lv_at hl 4 rfl) ?_
            obtain ⟨h7, e, hf⟩ := ob hf
            refine q_callVN (As := [.int v2, .int v3]) (rest := []) (st1 := []) (c_X9_make G e) B hw hz hc0 (k_X9_make e) (by decide) (ci := 9) rfl rfl my_X9_make mv_X9_make tw_5_229 ⟨Nat.le_of_ble_eq_true rfl, Nat.le_of_ble_eq_true rfl⟩ ⟨Nat.zero_le _, Nat.zero_le _⟩ rfl hl.1 rfl rfl (Nat.le_of_ble_eq_true rfl) dX11_numbers_45 (fun H locs hw => ?_)
            refine lv_iconst (v := 0) hx hb dX11_numbers_48 (by decide) ?_
            obtain ⟨rfl, rfl⟩ := so2 hf
            exact q_iret B hw hz hc0 hr hlk dX11_numbers_49
          · have hf := (if_neg c6).symm.trans hf
            exact w_X11_numbers_36 G B hz hc0 hr hlk  h _ _ _ hw (lv_sub hl [] rfl) hf
      · have hf := (if_neg c4).symm.trans hf
        exact w_X11_numbers_21 G B hz hc0 hr hlk  h _ _ _ hw (lv_sub hl [] rfl) hf
/-! SecondLife.write(IIJ)J -/
def f_X11_write_46 (z : Sh) (h : Hp) : Option (Int64 × Hp) :=
  (f_X11_refused z h 7).bind fun x1 =>
  some ((Int32.toInt64 x1), h)
def f_X11_write (z : Sh) (h : Hp) (v0 : Nat) (v1 : Int32) (v2 : Int32) (v3 : Int64) : Option (Int64 × Hp) :=
  if z.K v0 = 11 then
    (f_X11_trayAt z h v0 v1).bind fun o1 =>
    (match o1 with
    | none =>
      (f_X11_refused z h 2).bind fun x3 =>
      some ((Int32.toInt64 x3), h)
    | some a2 =>
      (gI z h 9 a2 1).bind fun x4 =>
      if x4 = 0 then
        (f_X11_refused z h 6).bind fun x11 =>
        some ((Int32.toInt64 x11), h)
      else
        if v2 < 0 then
          f_X11_write_46 z h
        else
          (gI z h 9 a2 3).bind fun x7 =>
          if v2 < x7 then
            (f_X9_put z h a2 v2 v3).bind fun h9 =>
            (f_X9_number z h9 a2 v2).bind fun x10 =>
            some (x10, h9)
          else
            f_X11_write_46 z h)
  else none
theorem k_X11_write {z : Sh} {h : Hp} {v0 : Nat} {v1 : Int32} {v2 : Int32} {v3 : Int64} {w : Int64 × Hp} (hf : f_X11_write z h v0 v1 v2 v3 = some w) : z.K v0 = 11 := by
  unfold f_X11_write at hf
  exact (if_some hf).1
set_option maxHeartbeats 4000000 in
theorem w_X11_write_46 {p : Program} {l : Launch} {e : Env} {s : State} {m : MethodId} {args : Array Value} {below : List Frame} {meth : Method} {c : Code} {s0 : State} {E : Ev} {z : Sh} {r : Int64} {h' : Hp} (G : Gl s0 E) (B : Bd p s0 s E m c cX11_write 6 RX11) (hz : s0.heap.size ≤ z.sz) (hc0 : s.heap.size + 0 = z.sz) (hr : meth.sig.returnType = (some .long)) (hlk : meth.locks = false) : ∀ (h : Hp) (H : Heap) (locs : List Loc) (ls : Array Slot), Pw s0 s E z h H locs → lv_has ls 6 [] → f_X11_write_46 z h = some (r, h') → W p l e (rmO 2 45) s m args below meth c H locs 0 0 (Zt below s0 E z h' (some (.long r)) args s 0 0) (F0 m 46 ls []) := by
  have hx := B.1
  have hb := B.2.1
  intro h H locs ls hw hl hf
  unfold f_X11_write_46 at hf
  refine lv_bipush (v := 7) hx hb dX11_write_46 (by decide) ?_
  obtain ⟨x1, e, hf⟩ := ob hf
  refine q_callS (As := [.int 7]) (rest := []) (st1 := [.int x1]) (c_X11_refused G e) B hw hz hc0 my_X11_refused mv_X11_refused tw_2_155 ⟨Nat.le_of_ble_eq_true rfl, Nat.le_of_ble_eq_true rfl⟩ ⟨Nat.zero_le _, Nat.zero_le _⟩ rfl hl.1 rfl rfl (Nat.le_of_ble_eq_true rfl) dX11_write_48 (fun H locs hw => ?_)
  refine lv_i2l (v := (Int32.toInt64 x1)) hx hb dX11_write_51 rfl ?_
  obtain ⟨rfl, rfl⟩ := so2 hf
  exact q_lret B hw hz hc0 hr hlk dX11_write_52
set_option maxHeartbeats 4000000 in
theorem c_X11_write {l : Launch} {s0 : State} {E : Ev} (G : Gl s0 E) {z : Sh} {h : Hp} {v0 : Nat} {v1 : Int32} {v2 : Int32} {v3 : Int64} {r : Int64} {h' : Hp} (hf : f_X11_write z h v0 v1 v2 v3 = some (r, h')) : Ct l s0 E yX11_write cX11_write 6 (some .long) 2 45 [.ref v0, .int v1, .int v2, .long v3] z h h' (some (.long r)) := by
  refine Ct.of G (by decide) (Nat.le_of_ble_eq_true rfl) ?_
  intro p e s m below meth c ls B hw hz hc0 hr hlk hl
  have B : Bd p s0 s E m c cX11_write 6 RX11 := B
  have hx := B.1
  have hb := B.2.1
  have hl : lv_has ls 6 [(0, .ref v0), (1, .int v1), (2, .int v2), (3, .long v3)] := hl
  unfold f_X11_write at hf
  obtain ⟨_, hf⟩ := if_some hf
  refine lv_aload_n hx hb dX11_write_0 rfl (lv_at hl 0 rfl) ?_
  refine lv_iload_n hx hb dX11_write_1 rfl (lv_at hl 1 rfl) ?_
  obtain ⟨o1, e, hf⟩ := ob hf
  refine q_callV (As := [.int v1]) (rest := []) (st1 := [va_rf o1]) (c_X11_trayAt G e) B hw hz hc0 (k_X11_trayAt e) (by decide) (ci := 11) rfl rfl my_X11_trayAt mv_X11_trayAt tw_4_91 ⟨Nat.le_of_ble_eq_true rfl, Nat.le_of_ble_eq_true rfl⟩ ⟨Nat.zero_le _, Nat.zero_le _⟩ rfl hl.1 rfl rfl (Nat.le_of_ble_eq_true rfl) dX11_write_2 (fun H locs hw => ?_)
  rcases o1 with _ | a2
  · refine lv_astoreN (lv' := [(5, .null), (0, .ref v0), (1, .int v1), (2, .int v2), (3, .long v3)]) hx hb dX11_write_5 hl (by decide) rfl (fun ls hl => ?_)
    refine lv_aloadN hx hb dX11_write_7 (lv_at hl 0 rfl) ?_
    refine lv_ifnonnullN hx hb dX11_write_9 ?_
    refine lv_iconst (v := 2) hx hb dX11_write_12 (by decide) ?_
    obtain ⟨x3, e, hf⟩ := ob hf
    refine q_callS (As := [.int 2]) (rest := []) (st1 := [.int x3]) (c_X11_refused G e) B hw hz hc0 my_X11_refused mv_X11_refused tw_2_155 ⟨Nat.le_of_ble_eq_true rfl, Nat.le_of_ble_eq_true rfl⟩ ⟨Nat.zero_le _, Nat.zero_le _⟩ rfl hl.1 rfl rfl (Nat.le_of_ble_eq_true rfl) dX11_write_13 (fun H locs hw => ?_)
    refine lv_i2l (v := (Int32.toInt64 x3)) hx hb dX11_write_16 rfl ?_
    obtain ⟨rfl, rfl⟩ := so2 hf
    exact q_lret B hw hz hc0 hr hlk dX11_write_17
  · refine lv_astore (lv' := [(5, .ref a2), (0, .ref v0), (1, .int v1), (2, .int v2), (3, .long v3)]) hx hb dX11_write_5 hl (by decide) rfl (fun ls hl => ?_)
    refine lv_aload hx hb dX11_write_7 (lv_at hl 0 rfl) ?_
    refine lv_ifnonnull (tgt := 18) hx hb dX11_write_9 (by decide) ?_
    refine lv_aload hx hb dX11_write_18 (lv_at hl 0 rfl) ?_
    obtain ⟨x4, e, hf⟩ := ob hf
    refine q_getIN e B hw fd_9_1.1 fd_9_1.2.1 fd_9_1.2.2.1 fd_9_1.2.2.2.1 fd_9_1.2.2.2.2 rfl tw_2_87 dX11_write_20 ?_
    refine lv_if_ne (tgt := 33) hx hb dX11_write_23 (by decide) (fun c5 => ?_) (fun c5 => ?_)
    · have hf := (if_neg c5).symm.trans hf
      refine lv_iload_n hx hb dX11_write_33 rfl (lv_at hl 3 rfl) ?_
      refine lv_if_lt (tgt := 46) hx hb dX11_write_34 (by decide) (fun c6 => ?_) (fun c6 => ?_)
      · have hf := (if_pos c6).symm.trans hf
        exact w_X11_write_46 G B hz hc0 hr hlk  h _ _ _ hw (lv_sub hl [] rfl) hf
      · have hf := (if_neg c6).symm.trans hf
        refine lv_iload_n hx hb dX11_write_37 rfl (lv_at hl 3 rfl) ?_
        refine lv_aload hx hb dX11_write_38 (lv_at hl 0 rfl) ?_
        obtain ⟨x7, e, hf⟩ := ob hf
        refine q_getIN e B hw fd_9_3.1 fd_9_3.2.1 fd_9_3.2.2.1 fd_9_3.2.2.2.1 fd_9_3.2.2.2.2 rfl tw_2_92 dX11_write_40 ?_
        refine lv_icmp_lt (tgt := 53) hx hb dX11_write_43 (by decide) (fun c8 => ?_) (fun c8 => ?_)
        · have hf := (if_pos c8).symm.trans hf
          refine lv_aload hx hb dX11_write_53 (lv_at hl 0 rfl) ?_
          refine lv_iload_n hx hb dX11_write_55 rfl (lv_at hl 3 rfl) ?_
          refine lv_lload_n hx hb dX11_write_56 rfl (lv_at hl 4 rfl) ?_
          obtain ⟨h9, e, hf⟩ := ob hf
          refine q_callVN (As := [.int v2, .long v3]) (rest := []) (st1 := []) (c_X9_put G e) B hw hz hc0 (k_X9_put e) (by decide) (ci := 9) rfl rfl my_X9_put mv_X9_put tw_6_0 ⟨Nat.le_of_ble_eq_true rfl, Nat.le_of_ble_eq_true rfl⟩ ⟨Nat.zero_le _, Nat.zero_le _⟩ rfl hl.1 rfl rfl (Nat.le_of_ble_eq_true rfl) dX11_write_57 (fun H locs hw => ?_)
          refine lv_aload hx hb dX11_write_60 (lv_at hl 0 rfl) ?_
          refine lv_iload_n hx hb dX11_write_62 rfl (lv_at hl 3 rfl) ?_
          obtain ⟨x10, e, hf⟩ := ob hf
          refine q_callVN (As := [.int v2]) (rest := []) (st1 := [.long x10]) (c_X9_number G e) B hw hz hc0 (k_X9_number e) (by decide) (ci := 9) rfl rfl my_X9_number mv_X9_number tw_5_154 ⟨Nat.le_of_ble_eq_true rfl, Nat.le_of_ble_eq_true rfl⟩ ⟨Nat.zero_le _, Nat.zero_le _⟩ rfl hl.1 rfl rfl (Nat.le_of_ble_eq_true rfl) dX11_write_63 (fun H locs hw => ?_)
          obtain ⟨rfl, rfl⟩ := so2 hf
          exact q_lret B hw hz hc0 hr hlk dX11_write_66
        · have hf := (if_neg c8).symm.trans hf
          exact w_X11_write_46 G B hz hc0 hr hlk  h _ _ _ hw (lv_sub hl [] rfl) hf
    · have hf := (if_pos c5).symm.trans hf
      refine lv_bipush (v := 6) hx hb dX11_write_26 (by decide) ?_
      obtain ⟨x11, e, hf⟩ := ob hf
      refine q_callS (As := [.int 6]) (rest := []) (st1 := [.int x11]) (c_X11_refused G e) B hw hz hc0 my_X11_refused mv_X11_refused tw_2_155 ⟨Nat.le_of_ble_eq_true rfl, Nat.le_of_ble_eq_true rfl⟩ ⟨Nat.zero_le _, Nat.zero_le _⟩ rfl hl.1 rfl rfl (Nat.le_of_ble_eq_true rfl) dX11_write_28 (fun H locs hw => ?_)
      refine lv_i2l (v := (Int32.toInt64 x11)) hx hb dX11_write_31 rfl ?_
      obtain ⟨rfl, rfl⟩ := so2 hf
      exact q_lret B hw hz hc0 hr hlk dX11_write_32
/-! SecondLife$Chances.<init>(LSecondLife$Ways;LSecondLife$Courses;)V -/
def f_X0_init (z : Sh) (h : Hp) (v0 : Nat) (v1 : Nat) (v2 : Nat) : Option (Hp × Sh) :=
  if z.K v0 = 0 then
    gd2 z <|
    (nwO z h 3).bind fun (a1, h2, z3) =>
    gd2 z3 <|
    (f_X3_init z3 h2 a1 1400).bind fun (h4, z5) =>
    gd2 z5 <|
    (pR z5 h4 0 v0 2 (some a1)).bind fun h6 =>
    (nwA z5 h6 14 1400).bind fun (a7, h8, z9) =>
    gd2 z9 <|
    (pR z9 h8 0 v0 3 (some a7)).bind fun h10 =>
    (pR z9 h10 0 v0 4 none).bind fun h11 =>
    (pR z9 h11 0 v0 0 (some v1)).bind fun h12 =>
    (pR z9 h12 0 v0 1 (some v2)).bind fun h13 =>
    some (h13, z9)
  else none
theorem k_X0_init {z : Sh} {h : Hp} {v0 : Nat} {v1 : Nat} {v2 : Nat} {w : Hp × Sh} (hf : f_X0_init z h v0 v1 v2 = some w) : z.K v0 = 0 := by
  unfold f_X0_init at hf
  exact (if_some hf).1
theorem mo_X0_init {z : Sh} {h : Hp} {v0 : Nat} {v1 : Nat} {v2 : Nat} {h' : Hp} {zE : Sh} (hf : f_X0_init z h v0 v1 v2 = some (h', zE)) : z.sz ≤ zE.sz ∧ z.sl ≤ zE.sl := by
  unfold f_X0_init at hf
  exact (gd2_some (if_some hf).2).1
set_option maxHeartbeats 4000000 in
theorem c_X0_init {l : Launch} {s0 : State} {E : Ev} (G : Gl s0 E) {z : Sh} {h : Hp} {v0 : Nat} {v1 : Nat} {v2 : Nat} {h' : Hp} {zE : Sh} (hf : f_X0_init z h v0 v1 v2 = some (h', zE)) : Ca l s0 E yX0_init cX0_init 3 none 2 45 [.ref v0, .ref v1, .ref v2] z zE h h' (none) := by
  refine Ca.of G (by decide +kernel) (Nat.le_of_ble_eq_true rfl) (mo_X0_init hf) ?_
  intro p e s m below meth c ls B hw hM hr hlk hnm0 hl
  have B : Bd p s0 s E m c cX0_init 3 RX0 := B
  have hx := B.1
  have hb := B.2.1
  have hl : lv_has ls 3 [(0, .ref v0), (1, .ref v1), (2, .ref v2)] := hl
  have hin : meth.name = "<init>" := hnm0
  unfold f_X0_init at hf
  obtain ⟨_, hf⟩ := if_some hf
  obtain ⟨_, hf⟩ := gd2_some hf
  refine lv_aload_n hx hb dX0_init_0 rfl (lv_at hl 0 rfl) ?_
  refine q_obj B hl.1 tw_2_61 tw_1_29 tw_1_30 (Nat.le_of_ble_eq_true rfl) (Nat.le_of_ble_eq_true rfl) dX0_init_1 ?_
  refine lv_aload_n hx hb dX0_init_4 rfl (lv_at hl 0 rfl) ?_
  obtain ⟨⟨a1, h2, z3⟩, e, hf⟩ := ob hf
  obtain ⟨hg, hf⟩ := gd2_some hf
  refine q_newO e hg B hw hM (by decide) (ci := 3) rfl rfl tyX3 tyX3_ok dfX3 tw_2_62 tw_2_30 tw_1_10 dX0_init_5 (fun H locs hw hM => ?_)
  refine lv_dup hx hb dX0_init_8 rfl ?_
  refine lv_sipush (v := 1400) hx hb dX0_init_9 (by decide) ?_
  obtain ⟨⟨h4, z5⟩, e, hf⟩ := ob hf
  obtain ⟨hg, hf⟩ := gd2_some hf
  refine q_callINA (As := [.int 1400]) (rest := [.ref a1, .ref v0]) (c_X3_init G e) (mo_X3_init e) hg B hw hM rfl my_X3_init mv_X3_init tw_2_63 ⟨Nat.le_of_ble_eq_true rfl, Nat.le_of_ble_eq_true rfl⟩ rfl hl.1 rfl (Nat.le_of_ble_eq_true rfl) dX0_init_12 (fun H locs hw hM => ?_)
  obtain ⟨h6, e, hf⟩ := ob hf
  refine q_putRF e B hw hin fd_0_2.1 fd_0_2.2.1 fd_0_2.2.2.1 fd_0_2.2.2.2.1 fd_0_2.2.2.2.2 rfl rfl rfl (tyX0_ok 2 (by decide)) (Or.inl ⟨_, rfl⟩) tyX0 tyX0_ok nmX0 tw_2_66 dX0_init_15 (fun H locs hw => ?_)
  refine lv_aload_n hx hb dX0_init_18 rfl (lv_at hl 0 rfl) ?_
  refine lv_sipush (v := 1400) hx hb dX0_init_19 (by decide) ?_
  obtain ⟨⟨a7, h8, z9⟩, e, hf⟩ := ob hf
  obtain ⟨hg, hf⟩ := gd2_some hf
  refine q_newA (atype := .int) (ty := .int) (t0 := 1) e hg B hw hM (by decide) rfl rfl rfl (cfn_14 E _ _) arn_14 tw_1_102 dX0_init_22 (fun H locs hw hM => ?_)
  obtain ⟨h10, e, hf⟩ := ob hf
  refine q_putRF e B hw hin fd_0_3.1 fd_0_3.2.1 fd_0_3.2.2.1 fd_0_3.2.2.2.1 fd_0_3.2.2.2.2 rfl rfl rfl (tyX0_ok 3 (by decide)) (Or.inr ⟨_, rfl⟩) tyX0 tyX0_ok nmX0 tw_2_67 dX0_init_24 (fun H locs hw => ?_)
  refine lv_aload_n hx hb dX0_init_27 rfl (lv_at hl 0 rfl) ?_
  refine lv_null hx hb dX0_init_28 ?_
  obtain ⟨h11, e, hf⟩ := ob hf
  refine q_putNull e B hw fd_0_4.1 fd_0_4.2.1 fd_0_4.2.2.1 fd_0_4.2.2.2.1 fd_0_4.2.2.2.2 rfl rfl (tyX0_ok 4 (by decide)) (Or.inl ⟨_, rfl⟩) tyX0 tyX0_ok nmX0 tw_2_68 dX0_init_29 (fun H locs hw => ?_)
  refine lv_aload_n hx hb dX0_init_32 rfl (lv_at hl 0 rfl) ?_
  refine lv_aload_n hx hb dX0_init_33 rfl (lv_at hl 1 rfl) ?_
  obtain ⟨h12, e, hf⟩ := ob hf
  refine q_putRF e B hw hin fd_0_0.1 fd_0_0.2.1 fd_0_0.2.2.1 fd_0_0.2.2.2.1 fd_0_0.2.2.2.2 rfl rfl rfl (tyX0_ok 0 (by decide)) (Or.inl ⟨_, rfl⟩) tyX0 tyX0_ok nmX0 tw_2_64 dX0_init_34 (fun H locs hw => ?_)
  refine lv_aload_n hx hb dX0_init_37 rfl (lv_at hl 0 rfl) ?_
  refine lv_aload_n hx hb dX0_init_38 rfl (lv_at hl 2 rfl) ?_
  obtain ⟨h13, e, hf⟩ := ob hf
  refine q_putRF e B hw hin fd_0_1.1 fd_0_1.2.1 fd_0_1.2.2.1 fd_0_1.2.2.2.1 fd_0_1.2.2.2.2 rfl rfl rfl (tyX0_ok 1 (by decide)) (Or.inl ⟨_, rfl⟩) tyX0 tyX0_ok nmX0 tw_2_65 dX0_init_39 (fun H locs hw => ?_)
  obtain ⟨rfl, rfl⟩ := so2 hf
  exact q_vret B hw hM.hz hM.hc0 hr hlk dX0_init_42
/-! SecondLife$Chances.keptHopes()LSecondLife$Memo; -/
def f_X0_keptHopes (n : Nat) (z : Sh) (h : Hp) (v0 : Nat) : Option (Option Nat × Hp × Sh) :=
  if z.K v0 = 0 then
    gd3 z <|
    (gN z h 0 v0 4).bind fun o1 =>
    (match o1 with
    | none =>
      (nwO z h 3).bind fun (a3, h4, z5) =>
      gd3 z5 <|
      (f_X0_layOutHopes n z5 h4 v0).bind fun (x6, h7) =>
      (f_X3_init z5 h7 a3 x6).bind fun (h8, z9) =>
      gd3 z9 <|
      (pR z9 h8 0 v0 4 (some a3)).bind fun h10 =>
      (gN z9 h10 0 v0 4).bind fun o11 =>
      (match o11 with
      | none =>
        some (none, h10, z9)
      | some a12 =>
        some ((some a12), h10, z9))
    | some a2 =>
      (gN z h 0 v0 4).bind fun o13 =>
      (match o13 with
      | none =>
        some (none, h, z)
      | some a14 =>
        some ((some a14), h, z)))
  else none
theorem k_X0_keptHopes {n : Nat} {z : Sh} {h : Hp} {v0 : Nat} {w : Option Nat × Hp × Sh} (hf : f_X0_keptHopes n z h v0 = some w) : z.K v0 = 0 := by
  unfold f_X0_keptHopes at hf
  exact (if_some hf).1
theorem mo_X0_keptHopes {n : Nat} {z : Sh} {h : Hp} {v0 : Nat} {r : Option Nat} {h' : Hp} {zE : Sh} (hf : f_X0_keptHopes n z h v0 = some (r, h', zE)) : z.sz ≤ zE.sz ∧ z.sl ≤ zE.sl := by
  unfold f_X0_keptHopes at hf
  exact (gd3_some (if_some hf).2).1
set_option maxHeartbeats 4000000 in
theorem c_X0_keptHopes {l : Launch} {s0 : State} {E : Ev} (G : Gl s0 E) {n : Nat} {z : Sh} {h : Hp} {v0 : Nat} {r : Option Nat} {h' : Hp} {zE : Sh} (hf : f_X0_keptHopes n z h v0 = some (r, h', zE)) : Ca l s0 E yX0_keptHopes cX0_keptHopes 1 (some (.object "SecondLife$Memo")) 2 45 [.ref v0] z zE h h' (some (va_rf r)) := by
  refine Ca.of G (by decide +kernel) (Nat.le_of_ble_eq_true rfl) (mo_X0_keptHopes hf) ?_
  intro p e s m below meth c ls B hw hM hr hlk hnm0 hl
  have B : Bd p s0 s E m c cX0_keptHopes 1 RX0 := B
  have hx := B.1
  have hb := B.2.1
  have hl : lv_has ls 1 [(0, .ref v0)] := hl
  unfold f_X0_keptHopes at hf
  obtain ⟨_, hf⟩ := if_some hf
  obtain ⟨_, hf⟩ := gd3_some hf
  refine lv_aload_n hx hb dX0_keptHopes_0 rfl (lv_at hl 0 rfl) ?_
  obtain ⟨o1, e, hf⟩ := ob hf
  refine q_getNl e B hw fd_0_4.1 fd_0_4.2.1 fd_0_4.2.2.1 fd_0_4.2.2.2.1 fd_0_4.2.2.2.2 rfl tw_2_68 dX0_keptHopes_1 ?_
  rcases o1 with _ | a2
  · refine lv_ifnonnullN hx hb dX0_keptHopes_4 ?_
    refine lv_aload_n hx hb dX0_keptHopes_7 rfl (lv_at hl 0 rfl) ?_
    obtain ⟨⟨a3, h4, z5⟩, e, hf⟩ := ob hf
    obtain ⟨hg, hf⟩ := gd3_some hf
    refine q_newO e hg B hw hM (by decide) (ci := 3) rfl rfl tyX3 tyX3_ok dfX3 tw_2_62 tw_2_30 tw_1_10 dX0_keptHopes_8 (fun H locs hw hM => ?_)
    refine lv_dup hx hb dX0_keptHopes_11 rfl ?_
    refine lv_aload_n hx hb dX0_keptHopes_12 rfl (lv_at hl 0 rfl) ?_
    obtain ⟨⟨x6, h7⟩, e, hf⟩ := ob hf
    refine q_callV (As := []) (rest := [.ref a3, .ref a3, .ref v0]) (st1 := [.int x6, .ref a3, .ref a3, .ref v0]) (c_X0_layOutHopes G e) B hw hM.hz hM.hc0 (k_X0_layOutHopes e) (by decide) (ci := 0) rfl rfl my_X0_layOutHopes mv_X0_layOutHopes tw_5_124 ⟨Nat.le_of_ble_eq_true rfl, Nat.le_of_ble_eq_true rfl⟩ hM.hcs rfl hl.1 rfl rfl (Nat.le_of_ble_eq_true rfl) dX0_keptHopes_13 (fun H locs hw => ?_)
    obtain ⟨⟨h8, z9⟩, e, hf⟩ := ob hf
    obtain ⟨hg, hf⟩ := gd3_some hf
    refine q_callINA (As := [.int x6]) (rest := [.ref a3, .ref v0]) (c_X3_init G e) (mo_X3_init e) hg B hw hM rfl my_X3_init mv_X3_init tw_2_63 ⟨Nat.le_of_ble_eq_true rfl, Nat.le_of_ble_eq_true rfl⟩ rfl hl.1 rfl (Nat.le_of_ble_eq_true rfl) dX0_keptHopes_16 (fun H locs hw hM => ?_)
    obtain ⟨h10, e, hf⟩ := ob hf
    refine q_putR e B hw fd_0_4.1 fd_0_4.2.1 fd_0_4.2.2.1 fd_0_4.2.2.2.1 fd_0_4.2.2.2.2 rfl rfl (tyX0_ok 4 (by decide)) (Or.inl ⟨_, rfl⟩) tyX0 tyX0_ok nmX0 tw_2_68 dX0_keptHopes_19 (fun H locs hw => ?_)
    refine lv_aload_n hx hb dX0_keptHopes_22 rfl (lv_at hl 0 rfl) ?_
    obtain ⟨o11, e, hf⟩ := ob hf
    refine q_getNl e B hw fd_0_4.1 fd_0_4.2.1 fd_0_4.2.2.1 fd_0_4.2.2.2.1 fd_0_4.2.2.2.2 rfl tw_2_68 dX0_keptHopes_23 ?_
    rcases o11 with _ | a12
    · obtain ⟨rfl, rfl, rfl⟩ := so3 hf
      exact q_aret (Or.inl ⟨_, rfl⟩) (Or.inl rfl) B hw hM.hz hM.hc0 hr hlk dX0_keptHopes_26
    · obtain ⟨rfl, rfl, rfl⟩ := so3 hf
      exact q_aret (Or.inl ⟨_, rfl⟩) (Or.inr ⟨_, rfl⟩) B hw hM.hz hM.hc0 hr hlk dX0_keptHopes_26
  · refine lv_ifnonnull (tgt := 22) hx hb dX0_keptHopes_4 (by decide) ?_
    refine lv_aload_n hx hb dX0_keptHopes_22 rfl (lv_at hl 0 rfl) ?_
    obtain ⟨o13, e, hf⟩ := ob hf
    refine q_getNl e B hw fd_0_4.1 fd_0_4.2.1 fd_0_4.2.2.1 fd_0_4.2.2.2.1 fd_0_4.2.2.2.2 rfl tw_2_68 dX0_keptHopes_23 ?_
    rcases o13 with _ | a14
    · obtain ⟨rfl, rfl, rfl⟩ := so3 hf
      exact q_aret (Or.inl ⟨_, rfl⟩) (Or.inl rfl) B hw hM.hz hM.hc0 hr hlk dX0_keptHopes_26
    · obtain ⟨rfl, rfl, rfl⟩ := so3 hf
      exact q_aret (Or.inl ⟨_, rfl⟩) (Or.inr ⟨_, rfl⟩) B hw hM.hz hM.hc0 hr hlk dX0_keptHopes_26
/-! SecondLife$Courses.<init>(LSecondLife$Ways;)V -/
def f_X1_init (z : Sh) (h : Hp) (v0 : Nat) (v1 : Nat) : Option (Hp × Sh) :=
  if z.K v0 = 1 then
    gd2 z <|
    (nwO z h 3).bind fun (a1, h2, z3) =>
    gd2 z3 <|
    (f_X3_init z3 h2 a1 1400).bind fun (h4, z5) =>
    gd2 z5 <|
    (pR z5 h4 1 v0 1 (some a1)).bind fun h6 =>
    (nwA z5 h6 14 1400).bind fun (a7, h8, z9) =>
    gd2 z9 <|
    (pR z9 h8 1 v0 2 (some a7)).bind fun h10 =>
    (nwA z9 h10 14 1400).bind fun (a11, h12, z13) =>
    gd2 z13 <|
    (pR z13 h12 1 v0 3 (some a11)).bind fun h14 =>
    (pR z13 h14 1 v0 0 (some v1)).bind fun h15 =>
    some (h15, z13)
  else none
theorem k_X1_init {z : Sh} {h : Hp} {v0 : Nat} {v1 : Nat} {w : Hp × Sh} (hf : f_X1_init z h v0 v1 = some w) : z.K v0 = 1 := by
  unfold f_X1_init at hf
  exact (if_some hf).1
theorem mo_X1_init {z : Sh} {h : Hp} {v0 : Nat} {v1 : Nat} {h' : Hp} {zE : Sh} (hf : f_X1_init z h v0 v1 = some (h', zE)) : z.sz ≤ zE.sz ∧ z.sl ≤ zE.sl := by
  unfold f_X1_init at hf
  exact (gd2_some (if_some hf).2).1
set_option maxHeartbeats 4000000 in
theorem c_X1_init {l : Launch} {s0 : State} {E : Ev} (G : Gl s0 E) {z : Sh} {h : Hp} {v0 : Nat} {v1 : Nat} {h' : Hp} {zE : Sh} (hf : f_X1_init z h v0 v1 = some (h', zE)) : Ca l s0 E yX1_init cX1_init 2 none 2 45 [.ref v0, .ref v1] z zE h h' (none) := by
  refine Ca.of G (by decide +kernel) (Nat.le_of_ble_eq_true rfl) (mo_X1_init hf) ?_
  intro p e s m below meth c ls B hw hM hr hlk hnm0 hl
  have B : Bd p s0 s E m c cX1_init 2 RX1 := B
  have hx := B.1
  have hb := B.2.1
  have hl : lv_has ls 2 [(0, .ref v0), (1, .ref v1)] := hl
  have hin : meth.name = "<init>" := hnm0
  unfold f_X1_init at hf
  obtain ⟨_, hf⟩ := if_some hf
  obtain ⟨_, hf⟩ := gd2_some hf
  refine lv_aload_n hx hb dX1_init_0 rfl (lv_at hl 0 rfl) ?_
  refine q_obj B hl.1 tw_2_28 tw_1_29 tw_1_30 (Nat.le_of_ble_eq_true rfl) (Nat.le_of_ble_eq_true rfl) dX1_init_1 ?_
  refine lv_aload_n hx hb dX1_init_4 rfl (lv_at hl 0 rfl) ?_
  obtain ⟨⟨a1, h2, z3⟩, e, hf⟩ := ob hf
  obtain ⟨hg, hf⟩ := gd2_some hf
  refine q_newO e hg B hw hM (by decide) (ci := 3) rfl rfl tyX3 tyX3_ok dfX3 tw_2_29 tw_2_30 tw_1_10 dX1_init_5 (fun H locs hw hM => ?_)
  refine lv_dup hx hb dX1_init_8 rfl ?_
  refine lv_sipush (v := 1400) hx hb dX1_init_9 (by decide) ?_
  obtain ⟨⟨h4, z5⟩, e, hf⟩ := ob hf
  obtain ⟨hg, hf⟩ := gd2_some hf
  refine q_callINA (As := [.int 1400]) (rest := [.ref a1, .ref v0]) (c_X3_init G e) (mo_X3_init e) hg B hw hM rfl my_X3_init mv_X3_init tw_2_31 ⟨Nat.le_of_ble_eq_true rfl, Nat.le_of_ble_eq_true rfl⟩ rfl hl.1 rfl (Nat.le_of_ble_eq_true rfl) dX1_init_12 (fun H locs hw hM => ?_)
  obtain ⟨h6, e, hf⟩ := ob hf
  refine q_putRF e B hw hin fd_1_1.1 fd_1_1.2.1 fd_1_1.2.2.1 fd_1_1.2.2.2.1 fd_1_1.2.2.2.2 rfl rfl rfl (tyX1_ok 1 (by decide)) (Or.inl ⟨_, rfl⟩) tyX1 tyX1_ok nmX1 tw_2_44 dX1_init_15 (fun H locs hw => ?_)
  refine lv_aload_n hx hb dX1_init_18 rfl (lv_at hl 0 rfl) ?_
  refine lv_sipush (v := 1400) hx hb dX1_init_19 (by decide) ?_
  obtain ⟨⟨a7, h8, z9⟩, e, hf⟩ := ob hf
  obtain ⟨hg, hf⟩ := gd2_some hf
  refine q_newA (atype := .int) (ty := .int) (t0 := 1) e hg B hw hM (by decide) rfl rfl rfl (cfn_14 E _ _) arn_14 tw_1_102 dX1_init_22 (fun H locs hw hM => ?_)
  obtain ⟨h10, e, hf⟩ := ob hf
  refine q_putRF e B hw hin fd_1_2.1 fd_1_2.2.1 fd_1_2.2.2.1 fd_1_2.2.2.2.1 fd_1_2.2.2.2.2 rfl rfl rfl (tyX1_ok 2 (by decide)) (Or.inr ⟨_, rfl⟩) tyX1 tyX1_ok nmX1 tw_2_45 dX1_init_24 (fun H locs hw => ?_)
  refine lv_aload_n hx hb dX1_init_27 rfl (lv_at hl 0 rfl) ?_
  refine lv_sipush (v := 1400) hx hb dX1_init_28 (by decide) ?_
  obtain ⟨⟨a11, h12, z13⟩, e, hf⟩ := ob hf
  obtain ⟨hg, hf⟩ := gd2_some hf
  refine q_newA (atype := .int) (ty := .int) (t0 := 1) e hg B hw hM (by decide) rfl rfl rfl (cfn_14 E _ _) arn_14 tw_1_102 dX1_init_31 (fun H locs hw hM => ?_)
  obtain ⟨h14, e, hf⟩ := ob hf
  refine q_putRF e B hw hin fd_1_3.1 fd_1_3.2.1 fd_1_3.2.2.1 fd_1_3.2.2.2.1 fd_1_3.2.2.2.2 rfl rfl rfl (tyX1_ok 3 (by decide)) (Or.inr ⟨_, rfl⟩) tyX1 tyX1_ok nmX1 tw_2_46 dX1_init_33 (fun H locs hw => ?_)
  refine lv_aload_n hx hb dX1_init_36 rfl (lv_at hl 0 rfl) ?_
  refine lv_aload_n hx hb dX1_init_37 rfl (lv_at hl 1 rfl) ?_
  obtain ⟨h15, e, hf⟩ := ob hf
  refine q_putRF e B hw hin fd_1_0.1 fd_1_0.2.1 fd_1_0.2.2.1 fd_1_0.2.2.2.1 fd_1_0.2.2.2.2 rfl rfl rfl (tyX1_ok 0 (by decide)) (Or.inl ⟨_, rfl⟩) tyX1 tyX1_ok nmX1 tw_2_43 dX1_init_38 (fun H locs hw => ?_)
  obtain ⟨rfl, rfl⟩ := so2 hf
  exact q_vret B hw hM.hz hM.hc0 hr hlk dX1_init_41
