/-! SecondLife$People.runOf(II)I -/
def f_X5_runOf_13 (n : Nat) (z : Sh) (h : Hp) : Nat → Nat → Int32 → Int32 → Int32 → Int32 → Option (Int32)
  | 0, _, _, _, _, _ => none
  | i + 1, v0, v2, v3, v4, v5 =>
    (gI z h 5 v0 1).bind fun x1 =>
    if x1 ≤ v5 then
      some v3
    else
      if v4 = 0 then
        some v3
      else
        (some (v3 ||| v4)).bind fun x4 =>
        (f_X5_joining n z h v0 x4 v2).bind fun x5 =>
        (some (v5 + 1)).bind fun x6 =>
        (f_X5_runOf_13 n z h i) v0 v2 x4 x5 x6
def f_X5_runOf (n : Nat) (z : Sh) (h : Hp) (v0 : Nat) (v1 : Int32) (v2 : Int32) : Option (Int32) :=
  if z.K v0 = 5 then
    (f_X5_joining n z h v0 v1 v2).bind fun x1 =>
    f_X5_runOf_13 n z h n v0 v2 v1 x1 0
  else none
theorem k_X5_runOf {n : Nat} {z : Sh} {h : Hp} {v0 : Nat} {v1 : Int32} {v2 : Int32} {w : Int32} (hf : f_X5_runOf n z h v0 v1 v2 = some w) : z.K v0 = 5 := by
  unfold f_X5_runOf at hf
  exact (if_some hf).1
set_option maxHeartbeats 4000000 in
theorem w_X5_runOf_13 {p : Program} {l : Launch} {e : Env} {s : State} {m : MethodId} {args : Array Value} {below : List Frame} {meth : Method} {c : Code} {s0 : State} {E : Ev} {z : Sh} {h : Hp} {n : Nat} {r : Int32} (G : Gl s0 E) (B : Bd p s0 s E m c cX5_runOf 6 RX5) (hz : s0.heap.size ≤ z.sz) (hc0 : s.heap.size + 0 = z.sz) (hr : meth.sig.returnType = (some .int)) (hlk : meth.locks = false) : ∀ (i : Nat), ∀ (v0 : Nat) (v2 : Int32) (v3 : Int32) (v4 : Int32) (v5 : Int32) (H : Heap) (locs : List Loc) (ls : Array Slot), Pw s0 s E z h H locs → lv_has ls 6 [(0, .ref v0), (2, .int v2), (3, .int v3), (4, .int v4), (5, .int v5)] → f_X5_runOf_13 n z h i v0 v2 v3 v4 v5 = some r → W p l e (rmO 2 48) s m args below meth c H locs 0 0 (Zt below s0 E z h (some (.int r)) args s 0 0) (F0 m 13 ls []) := by
  have hx := B.1
  have hb := B.2.1
  intro i
  induction i with
  | zero =>
    intro v0 v2 v3 v4 v5 H locs ls hw hl hf
    have hf := (f_X5_runOf_13.eq_1 ..).symm.trans hf
    cases hf
  | succ i ih =>
    intro v0 v2 v3 v4 v5 H locs ls hw hl hf
    have hf := (f_X5_runOf_13.eq_2 ..).symm.trans hf
    refine lv_iload hx hb dX5_runOf_13 (lv_at hl 4 rfl) ?_
    refine lv_aload_n hx hb dX5_runOf_15 rfl (lv_at hl 0 rfl) ?_
    obtain ⟨x1, e, hf⟩ := ob hf
    refine q_getI e B hw fd_5_1.1 fd_5_1.2.1 fd_5_1.2.2.1 fd_5_1.2.2.2.1 fd_5_1.2.2.2.2 rfl tw_1_151 dX5_runOf_16 ?_
    refine lv_icmp_ge (tgt := 46) hx hb dX5_runOf_19 (by decide) (fun c2 => ?_) (fun c2 => ?_)
    · have hf := (if_pos c2).symm.trans hf
      refine lv_iload_n hx hb dX5_runOf_46 rfl (lv_at hl 2 rfl) ?_
      obtain rfl := so hf
      exact q_iret B hw hz hc0 hr hlk dX5_runOf_47
    · have hf := (if_neg c2).symm.trans hf
      refine lv_iload hx hb dX5_runOf_22 (lv_at hl 3 rfl) ?_
      refine lv_if_eq (tgt := 46) hx hb dX5_runOf_24 (by decide) (fun c3 => ?_) (fun c3 => ?_)
      · have hf := (if_pos c3).symm.trans hf
        refine lv_iload_n hx hb dX5_runOf_46 rfl (lv_at hl 2 rfl) ?_
        obtain rfl := so hf
        exact q_iret B hw hz hc0 hr hlk dX5_runOf_47
      · have hf := (if_neg c3).symm.trans hf
        refine lv_iload_n hx hb dX5_runOf_27 rfl (lv_at hl 2 rfl) ?_
        refine lv_iload hx hb dX5_runOf_28 (lv_at hl 3 rfl) ?_
        refine lv_ior hx hb dX5_runOf_30 ?_
        obtain ⟨x4, e, hf⟩ := ob hf
        refine q_nmI e ?_
        refine lv_istore_n (lv' := [(3, .int x4), (0, .ref v0), (2, .int v2), (4, .int v4), (5, .int v5)]) hx hb dX5_runOf_31 rfl hl (by decide) rfl (fun ls hl => ?_)
        refine lv_aload_n hx hb dX5_runOf_32 rfl (lv_at hl 1 rfl) ?_
        refine lv_iload_n hx hb dX5_runOf_33 rfl (lv_at hl 0 rfl) ?_
        refine lv_iload_n hx hb dX5_runOf_34 rfl (lv_at hl 2 rfl) ?_
        obtain ⟨x5, e, hf⟩ := ob hf
        refine q_callV (As := [.int x4, .int v2]) (rest := []) (st1 := [.int x5]) (c_X5_joining G e) B hw hz hc0 (k_X5_joining e) (by decide) (ci := 5) rfl rfl my_X5_joining mv_X5_joining tw_5_189 ⟨Nat.le_of_ble_eq_true rfl, Nat.le_of_ble_eq_true rfl⟩ ⟨Nat.zero_le _, Nat.zero_le _⟩ rfl hl.1 rfl rfl (Nat.le_of_ble_eq_true rfl) dX5_runOf_35 (fun H locs hw => ?_)
        refine lv_istore (lv' := [(4, .int x5), (3, .int x4), (0, .ref v0), (2, .int v2), (5, .int v5)]) hx hb dX5_runOf_38 hl (by decide) rfl (fun ls hl => ?_)
        obtain ⟨x6, e, hf⟩ := ob hf
        refine lv_iinc (v := x6) (lv' := [(5, .int x6), (4, .int x5), (3, .int x4), (0, .ref v0), (2, .int v2)]) hx hb dX5_runOf_40 hl (k := 4) rfl (Option.some.inj e) (by decide) rfl (fun ls hl => ?_)
        refine lv_goto (tgt := 13) hx hb dX5_runOf_43 (by decide) ?_
        exact ih v0 v2 x4 x5 x6 _ _ _ hw (lv_sub hl [3, 4, 2, 1, 0] rfl) hf
set_option maxHeartbeats 4000000 in
theorem c_X5_runOf {l : Launch} {s0 : State} {E : Ev} (G : Gl s0 E) {n : Nat} {z : Sh} {h : Hp} {v0 : Nat} {v1 : Int32} {v2 : Int32} {r : Int32} (hf : f_X5_runOf n z h v0 v1 v2 = some r) : Ct l s0 E yX5_runOf cX5_runOf 6 (some .int) 2 48 [.ref v0, .int v1, .int v2] z h h (some (.int r)) := by
  refine Ct.of G (by decide) (Nat.le_of_ble_eq_true rfl) ?_
  intro p e s m below meth c ls B hw hz hc0 hr hlk hl
  have B : Bd p s0 s E m c cX5_runOf 6 RX5 := B
  have hx := B.1
  have hb := B.2.1
  have hl : lv_has ls 6 [(0, .ref v0), (1, .int v1), (2, .int v2)] := hl
  unfold f_X5_runOf at hf
  obtain ⟨_, hf⟩ := if_some hf
  refine lv_iload_n hx hb dX5_runOf_0 rfl (lv_at hl 1 rfl) ?_
  refine lv_istore_n (lv' := [(3, .int v1), (0, .ref v0), (1, .int v1), (2, .int v2)]) hx hb dX5_runOf_1 rfl hl (by decide) rfl (fun ls hl => ?_)
  refine lv_aload_n hx hb dX5_runOf_2 rfl (lv_at hl 1 rfl) ?_
  refine lv_iload_n hx hb dX5_runOf_3 rfl (lv_at hl 0 rfl) ?_
  refine lv_iload_n hx hb dX5_runOf_4 rfl (lv_at hl 3 rfl) ?_
  obtain ⟨x1, e, hf⟩ := ob hf
  refine q_callV (As := [.int v1, .int v2]) (rest := []) (st1 := [.int x1]) (c_X5_joining G e) B hw hz hc0 (k_X5_joining e) (by decide) (ci := 5) rfl rfl my_X5_joining mv_X5_joining tw_5_189 ⟨Nat.le_of_ble_eq_true rfl, Nat.le_of_ble_eq_true rfl⟩ ⟨Nat.zero_le _, Nat.zero_le _⟩ rfl hl.1 rfl rfl (Nat.le_of_ble_eq_true rfl) dX5_runOf_5 (fun H locs hw => ?_)
  refine lv_istore (lv' := [(4, .int x1), (3, .int v1), (0, .ref v0), (1, .int v1), (2, .int v2)]) hx hb dX5_runOf_8 hl (by decide) rfl (fun ls hl => ?_)
  refine lv_iconst (v := 0) hx hb dX5_runOf_10 (by decide) ?_
  refine lv_istore (lv' := [(5, .int 0), (4, .int x1), (3, .int v1), (0, .ref v0), (1, .int v1), (2, .int v2)]) hx hb dX5_runOf_11 hl (by decide) rfl (fun ls hl => ?_)
  exact w_X5_runOf_13 G B hz hc0 hr hlk  n v0 v2 v1 x1 0 _ _ _ hw (lv_sub hl [3, 5, 2, 1, 0] rfl) hf
/-! SecondLife$People.roundsOf(I)I -/
def f_X5_roundsOf_12 (n : Nat) (z : Sh) (h : Hp) : Nat → Nat → Int32 → Int32 → Int32 → Option (Int32)
  | 0, _, _, _, _ => none
  | i + 1, v0, v2, v3, v4 =>
    (gI z h 5 v0 1).bind fun x1 =>
    if x1 ≤ v4 then
      some v4
    else
      if v3 = 0 then
        some v4
      else
        (some (v2 ||| v3)).bind fun x4 =>
        (f_X5_joining n z h v0 x4 0).bind fun x5 =>
        (some (v4 + 1)).bind fun x6 =>
        (f_X5_roundsOf_12 n z h i) v0 x4 x5 x6
def f_X5_roundsOf (n : Nat) (z : Sh) (h : Hp) (v0 : Nat) (v1 : Int32) : Option (Int32) :=
  if z.K v0 = 5 then
    (f_X5_joining n z h v0 v1 0).bind fun x1 =>
    f_X5_roundsOf_12 n z h n v0 v1 x1 0
  else none
theorem k_X5_roundsOf {n : Nat} {z : Sh} {h : Hp} {v0 : Nat} {v1 : Int32} {w : Int32} (hf : f_X5_roundsOf n z h v0 v1 = some w) : z.K v0 = 5 := by
  unfold f_X5_roundsOf at hf
  exact (if_some hf).1
set_option maxHeartbeats 4000000 in
theorem w_X5_roundsOf_12 {p : Program} {l : Launch} {e : Env} {s : State} {m : MethodId} {args : Array Value} {below : List Frame} {meth : Method} {c : Code} {s0 : State} {E : Ev} {z : Sh} {h : Hp} {n : Nat} {r : Int32} (G : Gl s0 E) (B : Bd p s0 s E m c cX5_roundsOf 5 RX5) (hz : s0.heap.size ≤ z.sz) (hc0 : s.heap.size + 0 = z.sz) (hr : meth.sig.returnType = (some .int)) (hlk : meth.locks = false) : ∀ (i : Nat), ∀ (v0 : Nat) (v2 : Int32) (v3 : Int32) (v4 : Int32) (H : Heap) (locs : List Loc) (ls : Array Slot), Pw s0 s E z h H locs → lv_has ls 5 [(0, .ref v0), (2, .int v2), (3, .int v3), (4, .int v4)] → f_X5_roundsOf_12 n z h i v0 v2 v3 v4 = some r → W p l e (rmO 2 48) s m args below meth c H locs 0 0 (Zt below s0 E z h (some (.int r)) args s 0 0) (F0 m 12 ls []) := by
  have hx := B.1
  have hb := B.2.1
  intro i
  induction i with
  | zero =>
    intro v0 v2 v3 v4 H locs ls hw hl hf
    have hf := (f_X5_roundsOf_12.eq_1 ..).symm.trans hf
    cases hf
  | succ i ih =>
    intro v0 v2 v3 v4 H locs ls hw hl hf
    have hf := (f_X5_roundsOf_12.eq_2 ..).symm.trans hf
    refine lv_iload hx hb dX5_roundsOf_12 (lv_at hl 3 rfl) ?_
    refine lv_aload_n hx hb dX5_roundsOf_14 rfl (lv_at hl 0 rfl) ?_
    obtain ⟨x1, e, hf⟩ := ob hf
    refine q_getI e B hw fd_5_1.1 fd_5_1.2.1 fd_5_1.2.2.1 fd_5_1.2.2.2.1 fd_5_1.2.2.2.2 rfl tw_1_151 dX5_roundsOf_15 ?_
    refine lv_icmp_ge (tgt := 42) hx hb dX5_roundsOf_18 (by decide) (fun c2 => ?_) (fun c2 => ?_)
    · have hf := (if_pos c2).symm.trans hf
      refine lv_iload hx hb dX5_roundsOf_42 (lv_at hl 3 rfl) ?_
      obtain rfl := so hf
      exact q_iret B hw hz hc0 hr hlk dX5_roundsOf_44
    · have hf := (if_neg c2).symm.trans hf
      refine lv_iload_n hx hb dX5_roundsOf_21 rfl (lv_at hl 2 rfl) ?_
      refine lv_if_eq (tgt := 42) hx hb dX5_roundsOf_22 (by decide) (fun c3 => ?_) (fun c3 => ?_)
      · have hf := (if_pos c3).symm.trans hf
        refine lv_iload hx hb dX5_roundsOf_42 (lv_at hl 3 rfl) ?_
        obtain rfl := so hf
        exact q_iret B hw hz hc0 hr hlk dX5_roundsOf_44
      · have hf := (if_neg c3).symm.trans hf
        refine lv_iload_n hx hb dX5_roundsOf_25 rfl (lv_at hl 1 rfl) ?_
        refine lv_iload_n hx hb dX5_roundsOf_26 rfl (lv_at hl 2 rfl) ?_
        refine lv_ior hx hb dX5_roundsOf_27 ?_
        obtain ⟨x4, e, hf⟩ := ob hf
        refine q_nmI e ?_
        refine lv_istore_n (lv' := [(2, .int x4), (0, .ref v0), (3, .int v3), (4, .int v4)]) hx hb dX5_roundsOf_28 rfl hl (by decide) rfl (fun ls hl => ?_)
        refine lv_aload_n hx hb dX5_roundsOf_29 rfl (lv_at hl 1 rfl) ?_
        refine lv_iload_n hx hb dX5_roundsOf_30 rfl (lv_at hl 0 rfl) ?_
        refine lv_iconst (v := 0) hx hb dX5_roundsOf_31 (by decide) ?_
        obtain ⟨x5, e, hf⟩ := ob hf
        refine q_callV (As := [.int x4, .int 0]) (rest := []) (st1 := [.int x5]) (c_X5_joining G e) B hw hz hc0 (k_X5_joining e) (by decide) (ci := 5) rfl rfl my_X5_joining mv_X5_joining tw_5_189 ⟨Nat.le_of_ble_eq_true rfl, Nat.le_of_ble_eq_true rfl⟩ ⟨Nat.zero_le _, Nat.zero_le _⟩ rfl hl.1 rfl rfl (Nat.le_of_ble_eq_true rfl) dX5_roundsOf_32 (fun H locs hw => ?_)
        refine lv_istore_n (lv' := [(3, .int x5), (2, .int x4), (0, .ref v0), (4, .int v4)]) hx hb dX5_roundsOf_35 rfl hl (by decide) rfl (fun ls hl => ?_)
        obtain ⟨x6, e, hf⟩ := ob hf
        refine lv_iinc (v := x6) (lv' := [(4, .int x6), (3, .int x5), (2, .int x4), (0, .ref v0)]) hx hb dX5_roundsOf_36 hl (k := 3) rfl (Option.some.inj e) (by decide) rfl (fun ls hl => ?_)
        refine lv_goto (tgt := 12) hx hb dX5_roundsOf_39 (by decide) ?_
        exact ih v0 x4 x5 x6 _ _ _ hw (lv_sub hl [3, 2, 1, 0] rfl) hf
set_option maxHeartbeats 4000000 in
theorem c_X5_roundsOf {l : Launch} {s0 : State} {E : Ev} (G : Gl s0 E) {n : Nat} {z : Sh} {h : Hp} {v0 : Nat} {v1 : Int32} {r : Int32} (hf : f_X5_roundsOf n z h v0 v1 = some r) : Ct l s0 E yX5_roundsOf cX5_roundsOf 5 (some .int) 2 48 [.ref v0, .int v1] z h h (some (.int r)) := by
  refine Ct.of G (by decide) (Nat.le_of_ble_eq_true rfl) ?_
  intro p e s m below meth c ls B hw hz hc0 hr hlk hl
  have B : Bd p s0 s E m c cX5_roundsOf 5 RX5 := B
  have hx := B.1
  have hb := B.2.1
  have hl : lv_has ls 5 [(0, .ref v0), (1, .int v1)] := hl
  unfold f_X5_roundsOf at hf
  obtain ⟨_, hf⟩ := if_some hf
  refine lv_iload_n hx hb dX5_roundsOf_0 rfl (lv_at hl 1 rfl) ?_
  refine lv_istore_n (lv' := [(2, .int v1), (0, .ref v0), (1, .int v1)]) hx hb dX5_roundsOf_1 rfl hl (by decide) rfl (fun ls hl => ?_)
  refine lv_aload_n hx hb dX5_roundsOf_2 rfl (lv_at hl 1 rfl) ?_
  refine lv_iload_n hx hb dX5_roundsOf_3 rfl (lv_at hl 0 rfl) ?_
  refine lv_iconst (v := 0) hx hb dX5_roundsOf_4 (by decide) ?_
  obtain ⟨x1, e, hf⟩ := ob hf
  refine q_callV (As := [.int v1, .int 0]) (rest := []) (st1 := [.int x1]) (c_X5_joining G e) B hw hz hc0 (k_X5_joining e) (by decide) (ci := 5) rfl rfl my_X5_joining mv_X5_joining tw_5_189 ⟨Nat.le_of_ble_eq_true rfl, Nat.le_of_ble_eq_true rfl⟩ ⟨Nat.zero_le _, Nat.zero_le _⟩ rfl hl.1 rfl rfl (Nat.le_of_ble_eq_true rfl) dX5_roundsOf_5 (fun H locs hw => ?_)
  refine lv_istore_n (lv' := [(3, .int x1), (2, .int v1), (0, .ref v0), (1, .int v1)]) hx hb dX5_roundsOf_8 rfl hl (by decide) rfl (fun ls hl => ?_)
  refine lv_iconst (v := 0) hx hb dX5_roundsOf_9 (by decide) ?_
  refine lv_istore (lv' := [(4, .int 0), (3, .int x1), (2, .int v1), (0, .ref v0), (1, .int v1)]) hx hb dX5_roundsOf_10 hl (by decide) rfl (fun ls hl => ?_)
  exact w_X5_roundsOf_12 G B hz hc0 hr hlk  n v0 v1 x1 0 _ _ _ hw (lv_sub hl [3, 2, 1, 0] rfl) hf
/-! SecondLife$People.atRest(I)Z -/
def f_X5_atRest_58 (n : Nat) (z : Sh) (h : Hp) (k7 : Nat → Int32 → Int32 → Int32 → Option (Int32)) (v0 : Nat) (v1 : Int32) (v2 : Int32) (v3 : Int32) (v4 : Int32) (u0 : Int32) : Option (Int32) :=
  if v4 = u0 then
    (some (v3 + 1)).bind fun x2 =>
    k7 v0 v1 v2 x2
  else
    some 0
def f_X5_atRest_50 (n : Nat) (z : Sh) (h : Hp) (k7 : Nat → Int32 → Int32 → Int32 → Option (Int32)) (v0 : Nat) (v1 : Int32) (v2 : Int32) (v3 : Int32) (v4 : Int32) (u0 : Int32) (u1 : Int32) : Option (Int32) :=
  if u0 < u1 then
    f_X5_atRest_58 n z h k7 v0 v1 v2 v3 v4 0
  else
    f_X5_atRest_58 n z h k7 v0 v1 v2 v3 v4 1
def f_X5_atRest_29 (n : Nat) (z : Sh) (h : Hp) (k7 : Nat → Int32 → Int32 → Int32 → Option (Int32)) (v0 : Nat) (v1 : Int32) (v2 : Int32) (v3 : Int32) (u0 : Int32) : Option (Int32) :=
  (f_X5_part z h v0 v3 7).bind fun x1 =>
  if u0 = 0 then
    f_X5_atRest_50 n z h k7 v0 v1 v2 v3 u0 v2 x1
  else
    f_X5_atRest_50 n z h k7 v0 v1 v2 v3 u0 (v2 - 1) x1
def f_X5_atRest_7 (n : Nat) (z : Sh) (h : Hp) : Nat → Nat → Int32 → Int32 → Int32 → Option (Int32)
  | 0, _, _, _, _ => none
  | i + 1, v0, v1, v2, v3 =>
    (gI z h 5 v0 1).bind fun x1 =>
    if x1 ≤ v3 then
      some 1
    else
      if ((v1 >>> (v3 &&& 31)) &&& 1) = 1 then
        f_X5_atRest_29 n z h (f_X5_atRest_7 n z h i) v0 v1 v2 v3 1
      else
        f_X5_atRest_29 n z h (f_X5_atRest_7 n z h i) v0 v1 v2 v3 0
def f_X5_atRest (n : Nat) (z : Sh) (h : Hp) (v0 : Nat) (v1 : Int32) : Option (Int32) :=
  if z.K v0 = 5 then
    (f_J6_bitCount_0f7a4 z h v1).bind fun x1 =>
    f_X5_atRest_7 n z h n v0 v1 x1 0
  else none
theorem k_X5_atRest {n : Nat} {z : Sh} {h : Hp} {v0 : Nat} {v1 : Int32} {w : Int32} (hf : f_X5_atRest n z h v0 v1 = some w) : z.K v0 = 5 := by
  unfold f_X5_atRest at hf
  exact (if_some hf).1
set_option maxHeartbeats 4000000 in
theorem w_X5_atRest_58 {p : Program} {l : Launch} {e : Env} {s : State} {m : MethodId} {args : Array Value} {below : List Frame} {meth : Method} {c : Code} {s0 : State} {E : Ev} {z : Sh} {h : Hp} {n : Nat} {k7 : Nat → Int32 → Int32 → Int32 → Option (Int32)} {r : Int32} (G : Gl s0 E) (B : Bd p s0 s E m c cX5_atRest 6 RX5) (hz : s0.heap.size ≤ z.sz) (hc0 : s.heap.size + 0 = z.sz) (hr : meth.sig.returnType = (some .boolean)) (hlk : meth.locks = false) (hk7 : ∀ (v0 : Nat) (v1 : Int32) (v2 : Int32) (v3 : Int32) (H : Heap) (locs : List Loc) (ls : Array Slot), Pw s0 s E z h H locs → lv_has ls 6 [(0, .ref v0), (1, .int v1), (2, .int v2), (3, .int v3)] → k7 v0 v1 v2 v3 = some r → W p l e (rmO 1 23) s m args below meth c H locs 0 0 (Zt below s0 E z h (some (.int r)) args s 0 0) (F0 m 7 ls [])) : ∀ (v0 : Nat) (v1 : Int32) (v2 : Int32) (v3 : Int32) (v4 : Int32) (u0 : Int32) (H : Heap) (locs : List Loc) (ls : Array Slot), Pw s0 s E z h H locs → lv_has ls 6 [(0, .ref v0), (1, .int v1), (2, .int v2), (3, .int v3), (4, .int v4)] → f_X5_atRest_58 n z h k7 v0 v1 v2 v3 v4 u0 = some r → W p l e (rmO 1 23) s m args below meth c H locs 0 0 (Zt below s0 E z h (some (.int r)) args s 0 0) (F0 m 58 ls [.int u0]) := by
  have hx := B.1
  have hb := B.2.1
  intro v0 v1 v2 v3 v4 u0 H locs ls hw hl hf
  unfold f_X5_atRest_58 at hf
  refine lv_istore (lv' := [(5, .int u0), (0, .ref v0), (1, .int v1), (2, .int v2), (3, .int v3), (4, .int v4)]) hx hb dX5_atRest_58 hl (by decide) rfl (fun ls hl => ?_)
  refine lv_iload hx hb dX5_atRest_60 (lv_at hl 5 rfl) ?_
  refine lv_iload hx hb dX5_atRest_62 (lv_at hl 0 rfl) ?_
  refine lv_icmp_eq (tgt := 69) hx hb dX5_atRest_64 (by decide) (fun c1 => ?_) (fun c1 => ?_)
  · have hf := (if_pos c1).symm.trans hf
    obtain ⟨x2, e, hf⟩ := ob hf
    refine lv_iinc (v := x2) (lv' := [(3, .int x2), (5, .int u0), (0, .ref v0), (1, .int v1), (2, .int v2), (4, .int v4)]) hx hb dX5_atRest_69 hl (k := 4) rfl (Option.some.inj e) (by decide) rfl (fun ls hl => ?_)
    refine lv_goto (tgt := 7) hx hb dX5_atRest_72 (by decide) ?_
    exact hk7 v0 v1 v2 x2 _ _ _ hw (lv_sub hl [2, 3, 4, 0] rfl) hf
  · have hf := (if_neg c1).symm.trans hf
    refine lv_iconst (v := 0) hx hb dX5_atRest_67 (by decide) ?_
    obtain rfl := so hf
    exact q_zret (Or.inl rfl) B hw hz hc0 hr hlk dX5_atRest_68
set_option maxHeartbeats 4000000 in
theorem w_X5_atRest_50 {p : Program} {l : Launch} {e : Env} {s : State} {m : MethodId} {args : Array Value} {below : List Frame} {meth : Method} {c : Code} {s0 : State} {E : Ev} {z : Sh} {h : Hp} {n : Nat} {k7 : Nat → Int32 → Int32 → Int32 → Option (Int32)} {r : Int32} (G : Gl s0 E) (B : Bd p s0 s E m c cX5_atRest 6 RX5) (hz : s0.heap.size ≤ z.sz) (hc0 : s.heap.size + 0 = z.sz) (hr : meth.sig.returnType = (some .boolean)) (hlk : meth.locks = false) (hk7 : ∀ (v0 : Nat) (v1 : Int32) (v2 : Int32) (v3 : Int32) (H : Heap) (locs : List Loc) (ls : Array Slot), Pw s0 s E z h H locs → lv_has ls 6 [(0, .ref v0), (1, .int v1), (2, .int v2), (3, .int v3)] → k7 v0 v1 v2 v3 = some r → W p l e (rmO 1 23) s m args below meth c H locs 0 0 (Zt below s0 E z h (some (.int r)) args s 0 0) (F0 m 7 ls [])) : ∀ (v0 : Nat) (v1 : Int32) (v2 : Int32) (v3 : Int32) (v4 : Int32) (u0 : Int32) (u1 : Int32) (H : Heap) (locs : List Loc) (ls : Array Slot), Pw s0 s E z h H locs → lv_has ls 6 [(0, .ref v0), (1, .int v1), (2, .int v2), (3, .int v3), (4, .int v4)] → f_X5_atRest_50 n z h k7 v0 v1 v2 v3 v4 u0 u1 = some r → W p l e (rmO 1 23) s m args below meth c H locs 0 0 (Zt below s0 E z h (some (.int r)) args s 0 0) (F0 m 50 ls [.int u0, .int u1]) := by
  have hx := B.1
  have hb := B.2.1
  intro v0 v1 v2 v3 v4 u0 u1 H locs ls hw hl hf
  unfold f_X5_atRest_50 at hf
  refine lv_icmp_gt (tgt := 57) hx hb dX5_atRest_50 (by decide) (fun c1 => ?_) (fun c1 => ?_)
  · have hf := (if_pos c1).symm.trans hf
    refine lv_iconst (v := 0) hx hb dX5_atRest_57 (by decide) ?_
    exact w_X5_atRest_58 G B hz hc0 hr hlk hk7 v0 v1 v2 v3 v4 0 _ _ _ hw (lv_sub hl [0, 1, 2, 3, 4] rfl) hf
  · have hf := (if_neg c1).symm.trans hf
    refine lv_iconst (v := 1) hx hb dX5_atRest_53 (by decide) ?_
    refine lv_goto (tgt := 58) hx hb dX5_atRest_54 (by decide) ?_
    exact w_X5_atRest_58 G B hz hc0 hr hlk hk7 v0 v1 v2 v3 v4 1 _ _ _ hw (lv_sub hl [0, 1, 2, 3, 4] rfl) hf
set_option maxHeartbeats 4000000 in
theorem w_X5_atRest_29 {p : Program} {l : Launch} {e : Env} {s : State} {m : MethodId} {args : Array Value} {below : List Frame} {meth : Method} {c : Code} {s0 : State} {E : Ev} {z : Sh} {h : Hp} {n : Nat} {k7 : Nat → Int32 → Int32 → Int32 → Option (Int32)} {r : Int32} (G : Gl s0 E) (B : Bd p s0 s E m c cX5_atRest 6 RX5) (hz : s0.heap.size ≤ z.sz) (hc0 : s.heap.size + 0 = z.sz) (hr : meth.sig.returnType = (some .boolean)) (hlk : meth.locks = false) (hk7 : ∀ (v0 : Nat) (v1 : Int32) (v2 : Int32) (v3 : Int32) (H : Heap) (locs : List Loc) (ls : Array Slot), Pw s0 s E z h H locs → lv_has ls 6 [(0, .ref v0), (1, .int v1), (2, .int v2), (3, .int v3)] → k7 v0 v1 v2 v3 = some r → W p l e (rmO 1 23) s m args below meth c H locs 0 0 (Zt below s0 E z h (some (.int r)) args s 0 0) (F0 m 7 ls [])) : ∀ (v0 : Nat) (v1 : Int32) (v2 : Int32) (v3 : Int32) (u0 : Int32) (H : Heap) (locs : List Loc) (ls : Array Slot), Pw s0 s E z h H locs → lv_has ls 6 [(0, .ref v0), (1, .int v1), (2, .int v2), (3, .int v3)] → f_X5_atRest_29 n z h k7 v0 v1 v2 v3 u0 = some r → W p l e (rmO 1 23) s m args below meth c H locs 0 0 (Zt below s0 E z h (some (.int r)) args s 0 0) (F0 m 29 ls [.int u0]) := by
  have hx := B.1
  have hb := B.2.1
  intro v0 v1 v2 v3 u0 H locs ls hw hl hf
  unfold f_X5_atRest_29 at hf
  refine lv_istore (lv' := [(4, .int u0), (0, .ref v0), (1, .int v1), (2, .int v2), (3, .int v3)]) hx hb dX5_atRest_29 hl (by decide) rfl (fun ls hl => ?_)
  refine lv_aload_n hx hb dX5_atRest_31 rfl (lv_at hl 1 rfl) ?_
  refine lv_iload_n hx hb dX5_atRest_32 rfl (lv_at hl 4 rfl) ?_
  refine lv_bipush (v := 7) hx hb dX5_atRest_33 (by decide) ?_
  obtain ⟨x1, e, hf⟩ := ob hf
  refine q_callV (As := [.int v3, .int 7]) (rest := []) (st1 := [.int x1]) (c_X5_part G e) B hw hz hc0 (k_X5_part e) (by decide) (ci := 5) rfl rfl my_X5_part mv_X5_part tw_4_127 ⟨Nat.le_of_ble_eq_true rfl, Nat.le_of_ble_eq_true rfl⟩ ⟨Nat.zero_le _, Nat.zero_le _⟩ rfl hl.1 rfl rfl (Nat.le_of_ble_eq_true rfl) dX5_atRest_35 (fun H locs hw => ?_)
  refine lv_iload hx hb dX5_atRest_38 (lv_at hl 0 rfl) ?_
  refine lv_if_eq (tgt := 49) hx hb dX5_atRest_40 (by decide) (fun c2 => ?_) (fun c2 => ?_)
  · have hf := (if_pos c2).symm.trans hf
    refine lv_iload_n hx hb dX5_atRest_49 rfl (lv_at hl 3 rfl) ?_
    exact w_X5_atRest_50 G B hz hc0 hr hlk hk7 v0 v1 v2 v3 u0 v2 x1 _ _ _ hw (lv_sub hl [1, 2, 3, 4, 0] rfl) hf
  · have hf := (if_neg c2).symm.trans hf
    refine lv_iload_n hx hb dX5_atRest_43 rfl (lv_at hl 3 rfl) ?_
    refine lv_iconst (v := 1) hx hb dX5_atRest_44 (by decide) ?_
    refine lv_isub hx hb dX5_atRest_45 ?_
    refine lv_goto (tgt := 50) hx hb dX5_atRest_46 (by decide) ?_
    exact w_X5_atRest_50 G B hz hc0 hr hlk hk7 v0 v1 v2 v3 u0 (v2 - 1) x1 _ _ _ hw (lv_sub hl [1, 2, 3, 4, 0] rfl) hf
set_option maxHeartbeats 4000000 in
theorem w_X5_atRest_7 {p : Program} {l : Launch} {e : Env} {s : State} {m : MethodId} {args : Array Value} {below : List Frame} {meth : Method} {c : Code} {s0 : State} {E : Ev} {z : Sh} {h : Hp} {n : Nat} {r : Int32} (G : Gl s0 E) (B : Bd p s0 s E m c cX5_atRest 6 RX5) (hz : s0.heap.size ≤ z.sz) (hc0 : s.heap.size + 0 = z.sz) (hr : meth.sig.returnType = (some .boolean)) (hlk : meth.locks = false) : ∀ (i : Nat), ∀ (v0 : Nat) (v1 : Int32) (v2 : Int32) (v3 : Int32) (H : Heap) (locs : List Loc) (ls : Array Slot), Pw s0 s E z h H locs → lv_has ls 6 [(0, .ref v0), (1, .int v1), (2, .int v2), (3, .int v3)] → f_X5_atRest_7 n z h i v0 v1 v2 v3 = some r → W p l e (rmO 1 23) s m args below meth c H locs 0 0 (Zt below s0 E z h (some (.int r)) args s 0 0) (F0 m 7 ls []) := by
  have hx := B.1
  have hb := B.2.1
  intro i
  induction i with
  | zero =>
    intro v0 v1 v2 v3 H locs ls hw hl hf
    have hf := (f_X5_atRest_7.eq_1 ..).symm.trans hf
    cases hf
  | succ i ih =>
    intro v0 v1 v2 v3 H locs ls hw hl hf
    have hf := (f_X5_atRest_7.eq_2 ..).symm.trans hf
    refine lv_iload_n hx hb dX5_atRest_7 rfl (lv_at hl 3 rfl) ?_
    refine lv_aload_n hx hb dX5_atRest_8 rfl (lv_at hl 0 rfl) ?_
    obtain ⟨x1, e, hf⟩ := ob hf
    refine q_getI e B hw fd_5_1.1 fd_5_1.2.1 fd_5_1.2.2.1 fd_5_1.2.2.2.1 fd_5_1.2.2.2.2 rfl tw_1_151 dX5_atRest_9 ?_
    refine lv_icmp_ge (tgt := 75) hx hb dX5_atRest_12 (by decide) (fun c2 => ?_) (fun c2 => ?_)
    · have hf := (if_pos c2).symm.trans hf
      refine lv_iconst (v := 1) hx hb dX5_atRest_75 (by decide) ?_
      obtain rfl := so hf
      exact q_zret (Or.inr rfl) B hw hz hc0 hr hlk dX5_atRest_76
    · have hf := (if_neg c2).symm.trans hf
      refine lv_iload_n hx hb dX5_atRest_15 rfl (lv_at hl 1 rfl) ?_
      refine lv_iload_n hx hb dX5_atRest_16 rfl (lv_at hl 3 rfl) ?_
      refine lv_ishr hx hb dX5_atRest_17 ?_
      refine lv_iconst (v := 1) hx hb dX5_atRest_18 (by decide) ?_
      refine lv_iand hx hb dX5_atRest_19 ?_
      refine lv_iconst (v := 1) hx hb dX5_atRest_20 (by decide) ?_
      refine lv_icmp_ne (tgt := 28) hx hb dX5_atRest_21 (by decide) (fun c3 => ?_) (fun c3 => ?_)
      · have hf := (if_neg c3).symm.trans hf
        refine lv_iconst (v := 0) hx hb dX5_atRest_28 (by decide) ?_
        exact w_X5_atRest_29 G B hz hc0 hr hlk ih v0 v1 v2 v3 0 _ _ _ hw (lv_sub hl [0, 1, 2, 3] rfl) hf
      · have hf := (if_pos c3).symm.trans hf
        refine lv_iconst (v := 1) hx hb dX5_atRest_24 (by decide) ?_
        refine lv_goto (tgt := 29) hx hb dX5_atRest_25 (by decide) ?_
        exact w_X5_atRest_29 G B hz hc0 hr hlk ih v0 v1 v2 v3 1 _ _ _ hw (lv_sub hl [0, 1, 2, 3] rfl) hf
set_option maxHeartbeats 4000000 in
theorem c_X5_atRest {l : Launch} {s0 : State} {E : Ev} (G : Gl s0 E) {n : Nat} {z : Sh} {h : Hp} {v0 : Nat} {v1 : Int32} {r : Int32} (hf : f_X5_atRest n z h v0 v1 = some r) : Ct l s0 E yX5_atRest cX5_atRest 6 (some .boolean) 1 23 [.ref v0, .int v1] z h h (some (.int r)) := by
  refine Ct.of G (by decide) (Nat.le_of_ble_eq_true rfl) ?_
  intro p e s m below meth c ls B hw hz hc0 hr hlk hl
  have B : Bd p s0 s E m c cX5_atRest 6 RX5 := B
  have hx := B.1
  have hb := B.2.1
  have hl : lv_has ls 6 [(0, .ref v0), (1, .int v1)] := hl
  unfold f_X5_atRest at hf
  obtain ⟨_, hf⟩ := if_some hf
  refine lv_iload_n hx hb dX5_atRest_0 rfl (lv_at hl 1 rfl) ?_
  obtain ⟨x1, e, hf⟩ := ob hf
  refine q_callS (As := [.int v1]) (rest := []) (st1 := [.int x1]) (c_J6_bitCount_0f7a4 G e) B hw hz hc0 my_J6_bitCount_0f7a4 mv_J6_bitCount_0f7a4 tw_5_193 ⟨Nat.le_of_ble_eq_true rfl, Nat.le_of_ble_eq_true rfl⟩ ⟨Nat.zero_le _, Nat.zero_le _⟩ rfl hl.1 rfl rfl (Nat.le_of_ble_eq_true rfl) dX5_atRest_1 (fun H locs hw => ?_)
  refine lv_istore_n (lv' := [(2, .int x1), (0, .ref v0), (1, .int v1)]) hx hb dX5_atRest_4 rfl hl (by decide) rfl (fun ls hl => ?_)
  refine lv_iconst (v := 0) hx hb dX5_atRest_5 (by decide) ?_
  refine lv_istore_n (lv' := [(3, .int 0), (2, .int x1), (0, .ref v0), (1, .int v1)]) hx hb dX5_atRest_6 rfl hl (by decide) rfl (fun ls hl => ?_)
  exact w_X5_atRest_7 G B hz hc0 hr hlk  n v0 v1 x1 0 _ _ _ hw (lv_sub hl [2, 3, 1, 0] rfl) hf
/-! SecondLife$Reader.<init>()V -/
def f_X6_init (z : Sh) (h : Hp) (v0 : Nat) : Option (Hp × Sh) :=
  if z.K v0 = 6 then
    gd2 z <|
    (pI z h 6 v0 0 0).bind fun h1 =>
    (pI z h1 6 v0 1 (-1)).bind fun h2 =>
    (nwA z h2 13 0).bind fun (a3, h4, z5) =>
    gd2 z5 <|
    (pR z5 h4 6 v0 2 (some a3)).bind fun h6 =>
    (pI z5 h6 6 v0 3 0).bind fun h7 =>
    (pI z5 h7 6 v0 4 0).bind fun h8 =>
    (pI z5 h8 6 v0 5 0).bind fun h9 =>
    (pI z5 h9 6 v0 6 3).bind fun h10 =>
    (pI z5 h10 6 v0 7 0).bind fun h11 =>
    (nwO z5 h11 8).bind fun (a12, h13, z14) =>
    gd2 z14 <|
    (f_X8_init z14 h13 a12).bind fun (h15, z16) =>
    gd2 z16 <|
    (pR z16 h15 6 v0 8 (some a12)).bind fun h17 =>
    (pZ z16 h17 6 v0 9 0).bind fun h18 =>
    (nwA z16 h18 14 900).bind fun (a19, h20, z21) =>
    gd2 z21 <|
    (pR z21 h20 6 v0 10 (some a19)).bind fun h22 =>
    (pI z21 h22 6 v0 11 0).bind fun h23 =>
    some (h23, z21)
  else none
theorem k_X6_init {z : Sh} {h : Hp} {v0 : Nat} {w : Hp × Sh} (hf : f_X6_init z h v0 = some w) : z.K v0 = 6 := by
  unfold f_X6_init at hf
  exact (if_some hf).1
theorem mo_X6_init {z : Sh} {h : Hp} {v0 : Nat} {h' : Hp} {zE : Sh} (hf : f_X6_init z h v0 = some (h', zE)) : z.sz ≤ zE.sz ∧ z.sl ≤ zE.sl := by
  unfold f_X6_init at hf
  exact (gd2_some (if_some hf).2).1
set_option maxHeartbeats 4000000 in
theorem c_X6_init {l : Launch} {s0 : State} {E : Ev} (G : Gl s0 E) {z : Sh} {h : Hp} {v0 : Nat} {h' : Hp} {zE : Sh} (hf : f_X6_init z h v0 = some (h', zE)) : Ca l s0 E yX6_init cX6_init 1 none 2 44 [.ref v0] z zE h h' (none) := by
  refine Ca.of G (by decide +kernel) (Nat.le_of_ble_eq_true rfl) (mo_X6_init hf) ?_
  intro p e s m below meth c ls B hw hM hr hlk hnm0 hl
  have B : Bd p s0 s E m c cX6_init 1 RX6 := B
  have hx := B.1
  have hb := B.2.1
  have hl : lv_has ls 1 [(0, .ref v0)] := hl
  have hin : meth.name = "<init>" := hnm0
  unfold f_X6_init at hf
  obtain ⟨_, hf⟩ := if_some hf
  obtain ⟨_, hf⟩ := gd2_some hf
  refine lv_aload_n hx hb dX6_init_0 rfl (lv_at hl 0 rfl) ?_
  refine q_obj B hl.1 tw_1_36 tw_1_29 tw_1_30 (Nat.le_of_ble_eq_true rfl) (Nat.le_of_ble_eq_true rfl) dX6_init_1 ?_
  refine lv_aload_n hx hb dX6_init_4 rfl (lv_at hl 0 rfl) ?_
  refine lv_iconst (v := 0) hx hb dX6_init_5 (by decide) ?_
  obtain ⟨h1, e, hf⟩ := ob hf
  refine q_putI e B hw fd_6_0.1 fd_6_0.2.1 fd_6_0.2.2.1 fd_6_0.2.2.2.1 fd_6_0.2.2.2.2 rfl rfl (tyX6_ok 0 (by decide)) tyX6 tyX6_ok nmX6 tw_1_103 dX6_init_6 (fun H locs hw => ?_)
  refine lv_aload_n hx hb dX6_init_9 rfl (lv_at hl 0 rfl) ?_
  refine lv_iconst (v := (-1)) hx hb dX6_init_10 (by decide) ?_
  obtain ⟨h2, e, hf⟩ := ob hf
  refine q_putI e B hw fd_6_1.1 fd_6_1.2.1 fd_6_1.2.2.1 fd_6_1.2.2.2.1 fd_6_1.2.2.2.2 rfl rfl (tyX6_ok 1 (by decide)) tyX6 tyX6_ok nmX6 tw_1_105 dX6_init_11 (fun H locs hw => ?_)
  refine lv_aload_n hx hb dX6_init_14 rfl (lv_at hl 0 rfl) ?_
  refine lv_iconst (v := 0) hx hb dX6_init_15 (by decide) ?_
  obtain ⟨⟨a3, h4, z5⟩, e, hf⟩ := ob hf
  obtain ⟨hg, hf⟩ := gd2_some hf
  refine q_newA (atype := .byte) (ty := .byte) (t0 := 0) e hg B hw hM (by decide) rfl rfl rfl (cfn_13 E _ _) arn_13 tw_1_101 dX6_init_16 (fun H locs hw hM => ?_)
  obtain ⟨h6, e, hf⟩ := ob hf
  refine q_putR e B hw fd_6_2.1 fd_6_2.2.1 fd_6_2.2.2.1 fd_6_2.2.2.2.1 fd_6_2.2.2.2.2 rfl rfl (tyX6_ok 2 (by decide)) (Or.inr ⟨_, rfl⟩) tyX6 tyX6_ok nmX6 tw_1_107 dX6_init_18 (fun H locs hw => ?_)
  refine lv_aload_n hx hb dX6_init_21 rfl (lv_at hl 0 rfl) ?_
  refine lv_iconst (v := 0) hx hb dX6_init_22 (by decide) ?_
  obtain ⟨h7, e, hf⟩ := ob hf
  refine q_putI e B hw fd_6_3.1 fd_6_3.2.1 fd_6_3.2.2.1 fd_6_3.2.2.2.1 fd_6_3.2.2.2.2 rfl rfl (tyX6_ok 3 (by decide)) tyX6 tyX6_ok nmX6 tw_1_108 dX6_init_23 (fun H locs hw => ?_)
  refine lv_aload_n hx hb dX6_init_26 rfl (lv_at hl 0 rfl) ?_
  refine lv_iconst (v := 0) hx hb dX6_init_27 (by decide) ?_
  obtain ⟨h8, e, hf⟩ := ob hf
  refine q_putI e B hw fd_6_4.1 fd_6_4.2.1 fd_6_4.2.2.1 fd_6_4.2.2.2.1 fd_6_4.2.2.2.2 rfl rfl (tyX6_ok 4 (by decide)) tyX6 tyX6_ok nmX6 tw_1_109 dX6_init_28 (fun H locs hw => ?_)
  refine lv_aload_n hx hb dX6_init_31 rfl (lv_at hl 0 rfl) ?_
  refine lv_iconst (v := 0) hx hb dX6_init_32 (by decide) ?_
  obtain ⟨h9, e, hf⟩ := ob hf
  refine q_putI e B hw fd_6_5.1 fd_6_5.2.1 fd_6_5.2.2.1 fd_6_5.2.2.2.1 fd_6_5.2.2.2.2 rfl rfl (tyX6_ok 5 (by decide)) tyX6 tyX6_ok nmX6 tw_1_110 dX6_init_33 (fun H locs hw => ?_)
  refine lv_aload_n hx hb dX6_init_36 rfl (lv_at hl 0 rfl) ?_
  refine lv_iconst (v := 3) hx hb dX6_init_37 (by decide) ?_
  obtain ⟨h10, e, hf⟩ := ob hf
  refine q_putI e B hw fd_6_6.1 fd_6_6.2.1 fd_6_6.2.2.1 fd_6_6.2.2.2.1 fd_6_6.2.2.2.2 rfl rfl (tyX6_ok 6 (by decide)) tyX6 tyX6_ok nmX6 tw_1_111 dX6_init_38 (fun H locs hw => ?_)
  refine lv_aload_n hx hb dX6_init_41 rfl (lv_at hl 0 rfl) ?_
  refine lv_iconst (v := 0) hx hb dX6_init_42 (by decide) ?_
  obtain ⟨h11, e, hf⟩ := ob hf
  refine q_putI e B hw fd_6_7.1 fd_6_7.2.1 fd_6_7.2.2.1 fd_6_7.2.2.2.1 fd_6_7.2.2.2.2 rfl rfl (tyX6_ok 7 (by decide)) tyX6 tyX6_ok nmX6 tw_1_112 dX6_init_43 (fun H locs hw => ?_)
  refine lv_aload_n hx hb dX6_init_46 rfl (lv_at hl 0 rfl) ?_
  obtain ⟨⟨a12, h13, z14⟩, e, hf⟩ := ob hf
  obtain ⟨hg, hf⟩ := gd2_some hf
  refine q_newO e hg B hw hM (by decide) (ci := 8) rfl rfl tyX8 tyX8_ok dfX8 tw_1_37 tw_1_38 tw_1_3 dX6_init_47 (fun H locs hw hM => ?_)
  refine lv_dup hx hb dX6_init_50 rfl ?_
  obtain ⟨⟨h15, z16⟩, e, hf⟩ := ob hf
  obtain ⟨hg, hf⟩ := gd2_some hf
  refine q_callINA (As := []) (rest := [.ref a12, .ref v0]) (c_X8_init G e) (mo_X8_init e) hg B hw hM rfl my_X8_init mv_X8_init tw_1_39 ⟨Nat.le_of_ble_eq_true rfl, Nat.le_of_ble_eq_true rfl⟩ rfl hl.1 rfl (Nat.le_of_ble_eq_true rfl) dX6_init_51 (fun H locs hw hM => ?_)
  obtain ⟨h17, e, hf⟩ := ob hf
  refine q_putR e B hw fd_6_8.1 fd_6_8.2.1 fd_6_8.2.2.1 fd_6_8.2.2.2.1 fd_6_8.2.2.2.2 rfl rfl (tyX6_ok 8 (by decide)) (Or.inl ⟨_, rfl⟩) tyX6 tyX6_ok nmX6 tw_1_113 dX6_init_54 (fun H locs hw => ?_)
  refine lv_aload_n hx hb dX6_init_57 rfl (lv_at hl 0 rfl) ?_
  refine lv_iconst (v := 0) hx hb dX6_init_58 (by decide) ?_
  obtain ⟨h18, e, hf⟩ := ob hf
  refine q_putZ e B hw fd_6_9.1 fd_6_9.2.1 fd_6_9.2.2.1 fd_6_9.2.2.2.1 fd_6_9.2.2.2.2 rfl rfl (tyX6_ok 9 (by decide)) tyX6 tyX6_ok nmX6 tw_1_114 dX6_init_59 (fun H locs hw => ?_)
  refine lv_aload_n hx hb dX6_init_62 rfl (lv_at hl 0 rfl) ?_
  refine lv_sipush (v := 900) hx hb dX6_init_63 (by decide) ?_
  obtain ⟨⟨a19, h20, z21⟩, e, hf⟩ := ob hf
  obtain ⟨hg, hf⟩ := gd2_some hf
  refine q_newA (atype := .int) (ty := .int) (t0 := 1) e hg B hw hM (by decide) rfl rfl rfl (cfn_14 E _ _) arn_14 tw_1_102 dX6_init_66 (fun H locs hw hM => ?_)
  obtain ⟨h22, e, hf⟩ := ob hf
  refine q_putRF e B hw hin fd_6_10.1 fd_6_10.2.1 fd_6_10.2.2.1 fd_6_10.2.2.2.1 fd_6_10.2.2.2.2 rfl rfl rfl (tyX6_ok 10 (by decide)) (Or.inr ⟨_, rfl⟩) tyX6 tyX6_ok nmX6 tw_1_115 dX6_init_68 (fun H locs hw => ?_)
  refine lv_aload_n hx hb dX6_init_71 rfl (lv_at hl 0 rfl) ?_
  refine lv_iconst (v := 0) hx hb dX6_init_72 (by decide) ?_
  obtain ⟨h23, e, hf⟩ := ob hf
  refine q_putI e B hw fd_6_11.1 fd_6_11.2.1 fd_6_11.2.2.1 fd_6_11.2.2.2.1 fd_6_11.2.2.2.2 rfl rfl (tyX6_ok 11 (by decide)) tyX6 tyX6_ok nmX6 tw_1_116 dX6_init_73 (fun H locs hw => ?_)
  obtain ⟨rfl, rfl⟩ := so2 hf
  exact q_vret B hw hM.hz hM.hc0 hr hlk dX6_init_76
/-! SecondLife$Reader.readDigits()V -/
def f_X6_readDigits_89 (n : Nat) (z : Sh) (h : Hp) (v0 : Nat) : Option (Hp) :=
  (gI z h 6 v0 5).bind fun x1 =>
  (gI z h 6 v0 4).bind fun x2 =>
  if (x1 - x2) ≤ 3 then
    (pI z h 6 v0 6 1).bind fun h4 =>
    some h4
  else
    (pI z h 6 v0 6 4).bind fun h5 =>
    some h5
def f_X6_readDigits_76 (n : Nat) (z : Sh) (k15 : Hp → Nat → Option (Hp)) (h : Hp) (v0 : Nat) : Option (Hp) :=
  (gI z h 6 v0 5).bind fun x1 =>
  (pI z h 6 v0 5 (x1 + 1)).bind fun h2 =>
  k15 h2 v0
def f_X6_readDigits_15 (n : Nat) (z : Sh) : Nat → Hp → Nat → Option (Hp)
  | 0, _, _ => none
  | i + 1, h, v0 =>
    (gI z h 6 v0 5).bind fun x1 =>
    (gI z h 6 v0 3).bind fun x2 =>
    if x2 ≤ x1 then
      f_X6_readDigits_89 n z h v0
    else
      (gI z h 6 v0 5).bind fun x4 =>
      (f_X6_byteAt z h v0 x4).bind fun x5 =>
      (f_X6_isDigit z h x5).bind fun x6 =>
      if x6 = 0 then
        f_X6_readDigits_89 n z h v0
      else
        (gI z h 6 v0 5).bind fun x8 =>
        (gI z h 6 v0 4).bind fun x9 =>
        if 3 ≤ (x8 - x9) then
          f_X6_readDigits_76 n z (f_X6_readDigits_15 n z i) h v0
        else
          (gI z h 6 v0 7).bind fun x11 =>
          (gI z h 6 v0 5).bind fun x12 =>
          (f_X6_byteAt z h v0 x12).bind fun x13 =>
          (pI z h 6 v0 7 (((x11 * 10) + x13) - 48)).bind fun h14 =>
          f_X6_readDigits_76 n z (f_X6_readDigits_15 n z i) h14 v0
def f_X6_readDigits (n : Nat) (z : Sh) (h : Hp) (v0 : Nat) : Option (Hp) :=
  if z.K v0 = 6 then
    (gI z h 6 v0 4).bind fun x1 =>
    (f_X6_byteAt z h v0 x1).bind fun x2 =>
    (pI z h 6 v0 7 (x2 - 48)).bind fun h3 =>
    f_X6_readDigits_15 n z n h3 v0
  else none
theorem k_X6_readDigits {n : Nat} {z : Sh} {h : Hp} {v0 : Nat} {w : Hp} (hf : f_X6_readDigits n z h v0 = some w) : z.K v0 = 6 := by
  unfold f_X6_readDigits at hf
  exact (if_some hf).1
set_option maxHeartbeats 4000000 in
theorem w_X6_readDigits_89 {p : Program} {l : Launch} {e : Env} {s : State} {m : MethodId} {args : Array Value} {below : List Frame} {meth : Method} {c : Code} {s0 : State} {E : Ev} {z : Sh} {n : Nat} {h' : Hp} (G : Gl s0 E) (B : Bd p s0 s E m c cX6_readDigits 1 RX6) (hz : s0.heap.size ≤ z.sz) (hc0 : s.heap.size + 0 = z.sz) (hr : meth.sig.returnType = none) (hlk : meth.locks = false) : ∀ (h : Hp) (v0 : Nat) (H : Heap) (locs : List Loc) (ls : Array Slot), Pw s0 s E z h H locs → lv_has ls 1 [(0, .ref v0)] → f_X6_readDigits_89 n z h v0 = some h' → W p l e (rmO 1 21) s m args below meth c H locs 0 0 (Zt below s0 E z h' (none) args s 0 0) (F0 m 89 ls []) := by
  have hx := B.1
  have hb := B.2.1
  intro h v0 H locs ls hw hl hf
  unfold f_X6_readDigits_89 at hf
  refine lv_aload_n hx hb dX6_readDigits_89 rfl (lv_at hl 0 rfl) ?_
  refine lv_aload_n hx hb dX6_readDigits_90 rfl (lv_at hl 0 rfl) ?_
  obtain ⟨x1, e, hf⟩ := ob hf
  refine q_getI e B hw fd_6_5.1 fd_6_5.2.1 fd_6_5.2.2.1 fd_6_5.2.2.2.1 fd_6_5.2.2.2.2 rfl tw_1_110 dX6_readDigits_91 ?_
  refine lv_aload_n hx hb dX6_readDigits_94 rfl (lv_at hl 0 rfl) ?_
  obtain ⟨x2, e, hf⟩ := ob hf
  refine q_getI e B hw fd_6_4.1 fd_6_4.2.1 fd_6_4.2.2.1 fd_6_4.2.2.2.1 fd_6_4.2.2.2.2 rfl tw_1_109 dX6_readDigits_95 ?_
  refine lv_isub hx hb dX6_readDigits_98 ?_
  refine lv_iconst (v := 3) hx hb dX6_readDigits_99 (by decide) ?_
  refine lv_icmp_le (tgt := 107) hx hb dX6_readDigits_100 (by decide) (fun c3 => ?_) (fun c3 => ?_)
  · have hf := (if_pos c3).symm.trans hf
    refine lv_iconst (v := 1) hx hb dX6_readDigits_107 (by decide) ?_
    obtain ⟨h4, e, hf⟩ := ob hf
    refine q_putI e B hw fd_6_6.1 fd_6_6.2.1 fd_6_6.2.2.1 fd_6_6.2.2.2.1 fd_6_6.2.2.2.2 rfl rfl (tyX6_ok 6 (by decide)) tyX6 tyX6_ok nmX6 tw_1_111 dX6_readDigits_108 (fun H locs hw => ?_)
    obtain rfl := so hf
    exact q_vret B hw hz hc0 hr hlk dX6_readDigits_111
  · have hf := (if_neg c3).symm.trans hf
    refine lv_iconst (v := 4) hx hb dX6_readDigits_103 (by decide) ?_
    refine lv_goto (tgt := 108) hx hb dX6_readDigits_104 (by decide) ?_
    obtain ⟨h5, e, hf⟩ := ob hf
    refine q_putI e B hw fd_6_6.1 fd_6_6.2.1 fd_6_6.2.2.1 fd_6_6.2.2.2.1 fd_6_6.2.2.2.2 rfl rfl (tyX6_ok 6 (by decide)) tyX6 tyX6_ok nmX6 tw_1_111 dX6_readDigits_108 (fun H locs hw => ?_)
    obtain rfl := so hf
    exact q_vret B hw hz hc0 hr hlk dX6_readDigits_111
set_option maxHeartbeats 4000000 in
theorem w_X6_readDigits_76 {p : Program} {l : Launch} {e : Env} {s : State} {m : MethodId} {args : Array Value} {below : List Frame} {meth : Method} {c : Code} {s0 : State} {E : Ev} {z : Sh} {n : Nat} {k15 : Hp → Nat → Option (Hp)} {h' : Hp} (G : Gl s0 E) (B : Bd p s0 s E m c cX6_readDigits 1 RX6) (hz : s0.heap.size ≤ z.sz) (hc0 : s.heap.size + 0 = z.sz) (hr : meth.sig.returnType = none) (hlk : meth.locks = false) (hk15 : ∀ (h : Hp) (v0 : Nat) (H : Heap) (locs : List Loc) (ls : Array Slot), Pw s0 s E z h H locs → lv_has ls 1 [(0, .ref v0)] → k15 h v0 = some h' → W p l e (rmO 1 21) s m args below meth c H locs 0 0 (Zt below s0 E z h' (none) args s 0 0) (F0 m 15 ls [])) : ∀ (h : Hp) (v0 : Nat) (H : Heap) (locs : List Loc) (ls : Array Slot), Pw s0 s E z h H locs → lv_has ls 1 [(0, .ref v0)] → f_X6_readDigits_76 n z k15 h v0 = some h' → W p l e (rmO 1 21) s m args below meth c H locs 0 0 (Zt below s0 E z h' (none) args s 0 0) (F0 m 76 ls []) := by
  have hx := B.1
  have hb := B.2.1
  intro h v0 H locs ls hw hl hf
  unfold f_X6_readDigits_76 at hf
  refine lv_aload_n hx hb dX6_readDigits_76 rfl (lv_at hl 0 rfl) ?_
  refine lv_dup hx hb dX6_readDigits_77 rfl ?_
  obtain ⟨x1, e, hf⟩ := ob hf
  refine q_getI e B hw fd_6_5.1 fd_6_5.2.1 fd_6_5.2.2.1 fd_6_5.2.2.2.1 fd_6_5.2.2.2.2 rfl tw_1_110 dX6_readDigits_78 ?_
  refine lv_iconst (v := 1) hx hb dX6_readDigits_81 (by decide) ?_
  refine lv_iadd hx hb dX6_readDigits_82 ?_
  obtain ⟨h2, e, hf⟩ := ob hf
  refine q_putI e B hw fd_6_5.1 fd_6_5.2.1 fd_6_5.2.2.1 fd_6_5.2.2.2.1 fd_6_5.2.2.2.2 rfl rfl (tyX6_ok 5 (by decide)) tyX6 tyX6_ok nmX6 tw_1_110 dX6_readDigits_83 (fun H locs hw => ?_)
  refine lv_goto (tgt := 15) hx hb dX6_readDigits_86 (by decide) ?_
  exact hk15 h2 v0 _ _ _ hw (lv_sub hl [0] rfl) hf
set_option maxHeartbeats 4000000 in
theorem w_X6_readDigits_15 {p : Program} {l : Launch} {e : Env} {s : State} {m : MethodId} {args : Array Value} {below : List Frame} {meth : Method} {c : Code} {s0 : State} {E : Ev} {z : Sh} {n : Nat} {h' : Hp} (G : Gl s0 E) (B : Bd p s0 s E m c cX6_readDigits 1 RX6) (hz : s0.heap.size ≤ z.sz) (hc0 : s.heap.size + 0 = z.sz) (hr : meth.sig.returnType = none) (hlk : meth.locks = false) : ∀ (i : Nat), ∀ (h : Hp) (v0 : Nat) (H : Heap) (locs : List Loc) (ls : Array Slot), Pw s0 s E z h H locs → lv_has ls 1 [(0, .ref v0)] → f_X6_readDigits_15 n z i h v0 = some h' → W p l e (rmO 1 21) s m args below meth c H locs 0 0 (Zt below s0 E z h' (none) args s 0 0) (F0 m 15 ls []) := by
  have hx := B.1
  have hb := B.2.1
  intro i
  induction i with
  | zero =>
    intro h v0 H locs ls hw hl hf
    have hf := (f_X6_readDigits_15.eq_1 ..).symm.trans hf
    cases hf
  | succ i ih =>
    intro h v0 H locs ls hw hl hf
    have hf := (f_X6_readDigits_15.eq_2 ..).symm.trans hf
    refine lv_aload_n hx hb dX6_readDigits_15 rfl (lv_at hl 0 rfl) ?_
    obtain ⟨x1, e, hf⟩ := ob hf
    refine q_getI e B hw fd_6_5.1 fd_6_5.2.1 fd_6_5.2.2.1 fd_6_5.2.2.2.1 fd_6_5.2.2.2.2 rfl tw_1_110 dX6_readDigits_16 ?_
    refine lv_aload_n hx hb dX6_readDigits_19 rfl (lv_at hl 0 rfl) ?_
    obtain ⟨x2, e, hf⟩ := ob hf
    refine q_getI e B hw fd_6_3.1 fd_6_3.2.1 fd_6_3.2.2.1 fd_6_3.2.2.2.1 fd_6_3.2.2.2.2 rfl tw_1_108 dX6_readDigits_20 ?_
    refine lv_icmp_ge (tgt := 89) hx hb dX6_readDigits_23 (by decide) (fun c3 => ?_) (fun c3 => ?_)
    · have hf := (if_pos c3).symm.trans hf
      exact w_X6_readDigits_89 G B hz hc0 hr hlk  h v0 _ _ _ hw (lv_sub hl [0] rfl) hf
    · have hf := (if_neg c3).symm.trans hf
      refine lv_aload_n hx hb dX6_readDigits_26 rfl (lv_at hl 0 rfl) ?_
      refine lv_aload_n hx hb dX6_readDigits_27 rfl (lv_at hl 0 rfl) ?_
      obtain ⟨x4, e, hf⟩ := ob hf
      refine q_getI e B hw fd_6_5.1 fd_6_5.2.1 fd_6_5.2.2.1 fd_6_5.2.2.2.1 fd_6_5.2.2.2.2 rfl tw_1_110 dX6_readDigits_28 ?_
      obtain ⟨x5, e, hf⟩ := ob hf
      refine q_callV (As := [.int x4]) (rest := []) (st1 := [.int x5]) (c_X6_byteAt G e) B hw hz hc0 (k_X6_byteAt e) (by decide) (ci := 6) rfl rfl my_X6_byteAt mv_X6_byteAt tw_2_175 ⟨Nat.le_of_ble_eq_true rfl, Nat.le_of_ble_eq_true rfl⟩ ⟨Nat.zero_le _, Nat.zero_le _⟩ rfl hl.1 rfl rfl (Nat.le_of_ble_eq_true rfl) dX6_readDigits_31 (fun H locs hw => ?_)
      obtain ⟨x6, e, hf⟩ := ob hf
      refine q_callS (As := [.int x5]) (rest := []) (st1 := [.int x6]) (c_X6_isDigit G e) B hw hz hc0 my_X6_isDigit mv_X6_isDigit tw_2_185 ⟨Nat.le_of_ble_eq_true rfl, Nat.le_of_ble_eq_true rfl⟩ ⟨Nat.zero_le _, Nat.zero_le _⟩ rfl hl.1 rfl rfl (Nat.le_of_ble_eq_true rfl) dX6_readDigits_34 (fun H locs hw => ?_)
      refine lv_if_eq (tgt := 89) hx hb dX6_readDigits_37 (by decide) (fun c7 => ?_) (fun c7 => ?_)
      · have hf := (if_pos c7).symm.trans hf
        exact w_X6_readDigits_89 G B hz hc0 hr hlk  h v0 _ _ _ hw (lv_sub hl [0] rfl) hf
      · have hf := (if_neg c7).symm.trans hf
        refine lv_aload_n hx hb dX6_readDigits_40 rfl (lv_at hl 0 rfl) ?_
        obtain ⟨x8, e, hf⟩ := ob hf
        refine q_getI e B hw fd_6_5.1 fd_6_5.2.1 fd_6_5.2.2.1 fd_6_5.2.2.2.1 fd_6_5.2.2.2.2 rfl tw_1_110 dX6_readDigits_41 ?_
        refine lv_aload_n hx hb dX6_readDigits_44 rfl (lv_at hl 0 rfl) ?_
        obtain ⟨x9, e, hf⟩ := ob hf
        refine q_getI e B hw fd_6_4.1 fd_6_4.2.1 fd_6_4.2.2.1 fd_6_4.2.2.2.1 fd_6_4.2.2.2.2 rfl tw_1_109 dX6_readDigits_45 ?_
        refine lv_isub hx hb dX6_readDigits_48 ?_
        refine lv_iconst (v := 3) hx hb dX6_readDigits_49 (by decide) ?_
        refine lv_icmp_ge (tgt := 76) hx hb dX6_readDigits_50 (by decide) (fun c10 => ?_) (fun c10 => ?_)
        · have hf := (if_pos c10).symm.trans hf
          exact w_X6_readDigits_76 G B hz hc0 hr hlk ih h v0 _ _ _ hw (lv_sub hl [0] rfl) hf
        · have hf := (if_neg c10).symm.trans hf
          refine lv_aload_n hx hb dX6_readDigits_53 rfl (lv_at hl 0 rfl) ?_
          refine lv_aload_n hx hb dX6_readDigits_54 rfl (lv_at hl 0 rfl) ?_
          obtain ⟨x11, e, hf⟩ := ob hf
          refine q_getI e B hw fd_6_7.1 fd_6_7.2.1 fd_6_7.2.2.1 fd_6_7.2.2.2.1 fd_6_7.2.2.2.2 rfl tw_1_112 dX6_readDigits_55 ?_
          refine lv_bipush (v := 10) hx hb dX6_readDigits_58 (by decide) ?_
          refine lv_imul hx hb dX6_readDigits_60 ?_
          refine lv_aload_n hx hb dX6_readDigits_61 rfl (lv_at hl 0 rfl) ?_
          refine lv_aload_n hx hb dX6_readDigits_62 rfl (lv_at hl 0 rfl) ?_
          obtain ⟨x12, e, hf⟩ := ob hf
          refine q_getI e B hw fd_6_5.1 fd_6_5.2.1 fd_6_5.2.2.1 fd_6_5.2.2.2.1 fd_6_5.2.2.2.2 rfl tw_1_110 dX6_readDigits_63 ?_
          obtain ⟨x13, e, hf⟩ := ob hf
          refine q_callV (As := [.int x12]) (rest := [.int (x11 * 10), .ref v0]) (st1 := [.int x13, .int (x11 * 10), .ref v0]) (c_X6_byteAt G e) B hw hz hc0 (k_X6_byteAt e) (by decide) (ci := 6) rfl rfl my_X6_byteAt mv_X6_byteAt tw_2_175 ⟨Nat.le_of_ble_eq_true rfl, Nat.le_of_ble_eq_true rfl⟩ ⟨Nat.zero_le _, Nat.zero_le _⟩ rfl hl.1 rfl rfl (Nat.le_of_ble_eq_true rfl) dX6_readDigits_66 (fun H locs hw => ?_)
          refine lv_iadd hx hb dX6_readDigits_69 ?_
          refine lv_bipush (v := 48) hx hb dX6_readDigits_70 (by decide) ?_
          refine lv_isub hx hb dX6_readDigits_72 ?_
          obtain ⟨h14, e, hf⟩ := ob hf
          refine q_putI e B hw fd_6_7.1 fd_6_7.2.1 fd_6_7.2.2.1 fd_6_7.2.2.2.1 fd_6_7.2.2.2.2 rfl rfl (tyX6_ok 7 (by decide)) tyX6 tyX6_ok nmX6 tw_1_112 dX6_readDigits_73 (fun H locs hw => ?_)
          exact w_X6_readDigits_76 G B hz hc0 hr hlk ih h14 v0 _ _ _ hw (lv_sub hl [0] rfl) hf
set_option maxHeartbeats 4000000 in
theorem c_X6_readDigits {l : Launch} {s0 : State} {E : Ev} (G : Gl s0 E) {n : Nat} {z : Sh} {h : Hp} {v0 : Nat} {h' : Hp} (hf : f_X6_readDigits n z h v0 = some h') : Ct l s0 E yX6_readDigits cX6_readDigits 1 none 1 21 [.ref v0] z h h' (none) := by
  refine Ct.of G (by decide) (Nat.le_of_ble_eq_true rfl) ?_
  intro p e s m below meth c ls B hw hz hc0 hr hlk hl
  have B : Bd p s0 s E m c cX6_readDigits 1 RX6 := B
  have hx := B.1
  have hb := B.2.1
  have hl : lv_has ls 1 [(0, .ref v0)] := hl
  unfold f_X6_readDigits at hf
  obtain ⟨_, hf⟩ := if_some hf
  refine lv_aload_n hx hb dX6_readDigits_0 rfl (lv_at hl 0 rfl) ?_
  refine lv_aload_n hx hb dX6_readDigits_1 rfl (lv_at hl 0 rfl) ?_
  refine lv_aload_n hx hb dX6_readDigits_2 rfl (lv_at hl 0 rfl) ?_
  obtain ⟨x1, e, hf⟩ := ob hf
  refine q_getI e B hw fd_6_4.1 fd_6_4.2.1 fd_6_4.2.2.1 fd_6_4.2.2.2.1 fd_6_4.2.2.2.2 rfl tw_1_109 dX6_readDigits_3 ?_
  obtain ⟨x2, e, hf⟩ := ob hf
  refine q_callV (As := [.int x1]) (rest := [.ref v0]) (st1 := [.int x2, .ref v0]) (c_X6_byteAt G e) B hw hz hc0 (k_X6_byteAt e) (by decide) (ci := 6) rfl rfl my_X6_byteAt mv_X6_byteAt tw_2_175 ⟨Nat.le_of_ble_eq_true rfl, Nat.le_of_ble_eq_true rfl⟩ ⟨Nat.zero_le _, Nat.zero_le _⟩ rfl hl.1 rfl rfl (Nat.le_of_ble_eq_true rfl) dX6_readDigits_6 (fun H locs hw => ?_)
  refine lv_bipush (v := 48) hx hb dX6_readDigits_9 (by decide) ?_
  refine lv_isub hx hb dX6_readDigits_11 ?_
  obtain ⟨h3, e, hf⟩ := ob hf
  refine q_putI e B hw fd_6_7.1 fd_6_7.2.1 fd_6_7.2.2.1 fd_6_7.2.2.2.1 fd_6_7.2.2.2.2 rfl rfl (tyX6_ok 7 (by decide)) tyX6 tyX6_ok nmX6 tw_1_112 dX6_readDigits_12 (fun H locs hw => ?_)
  exact w_X6_readDigits_15 G B hz hc0 hr hlk  n h3 v0 _ _ _ hw (lv_sub hl [0] rfl) hf
