/-! SecondLife$Reader.readPerson()Z -/
def f_X6_readPerson_115 (n : Nat) (z : Sh) (h : Hp) (v0 : Nat) (v1 : Int32) (v2 : Int32) : Option (Int32 × Hp) :=
  (gR z h 6 v0 8).bind fun a1 =>
  (f_X8_addPerson z h a1 v1 v2).bind fun h2 =>
  some (1, h2)
def f_X6_readPerson_108 (n : Nat) (z : Sh) (k29 : Hp → Nat → Int32 → Int32 → Int32 → Option (Int32 × Hp)) (h : Hp) (v0 : Nat) (v1 : Int32) (v3 : Int32) (u0 : Int32) : Option (Int32 × Hp) :=
  (some (v3 + 1)).bind fun x1 =>
  k29 h v0 v1 u0 x1
def f_X6_readPerson_96 (n : Nat) (z : Sh) (k29 : Hp → Nat → Int32 → Int32 → Int32 → Option (Int32 × Hp)) (h : Hp) (v0 : Nat) (v2 : Int32) (v3 : Int32) (v4 : Int32) (v5 : Int32) (u0 : Int32) : Option (Int32 × Hp) :=
  if v4 = 0 then
    f_X6_readPerson_108 n z k29 h v0 u0 v3 v5
  else
    f_X6_readPerson_108 n z k29 h v0 u0 v3 v2
def f_X6_readPerson_55 (n : Nat) (z : Sh) (k29 : Hp → Nat → Int32 → Int32 → Int32 → Option (Int32 × Hp)) (h : Hp) (v0 : Nat) (v1 : Int32) (v2 : Int32) (v3 : Int32) : Option (Int32 × Hp) :=
  (f_X6_is n z h v0 (z.st 16)).bind fun x1 =>
  (f_X6_next n z h v0).bind fun h2 =>
  (f_X6_takeNumber n z h2 v0 0 9).bind fun (x3, h4) =>
  (gI z h4 6 v0 0).bind fun x5 =>
  if x5 = 0 then
    if x1 = 0 then
      f_X6_readPerson_96 n z k29 h4 v0 v2 v3 x1 x3 v1
    else
      f_X6_readPerson_96 n z k29 h4 v0 v2 v3 x1 x3 x3
  else
    some (0, h4)
def f_X6_readPerson_29 (n : Nat) (z : Sh) : Nat → Hp → Nat → Int32 → Int32 → Int32 → Option (Int32 × Hp)
  | 0, _, _, _, _, _ => none
  | i + 1, h, v0, v1, v2, v3 =>
    (gI z h 6 v0 3).bind fun x1 =>
    if x1 ≤ v3 then
      f_X6_readPerson_115 n z h v0 v1 v2
    else
      (f_X6_is n z h v0 (z.st 16)).bind fun x3 =>
      if x3 = 0 then
        (f_X6_is n z h v0 (z.st 17)).bind fun x5 =>
        if x5 = 0 then
          f_X6_readPerson_115 n z h v0 v1 v2
        else
          f_X6_readPerson_55 n z (f_X6_readPerson_29 n z i) h v0 v1 v2 v3
      else
        f_X6_readPerson_55 n z (f_X6_readPerson_29 n z i) h v0 v1 v2 v3
def f_X6_readPerson (n : Nat) (z : Sh) (h : Hp) (v0 : Nat) : Option (Int32 × Hp) :=
  if z.K v0 = 6 then
    (gR z h 6 v0 8).bind fun a1 =>
    (gI z h 8 a1 2).bind fun x2 =>
    if x2 < 6 then
      (f_X6_next n z h v0).bind fun h4 =>
      f_X6_readPerson_29 n z n h4 v0 0 9 0
    else
      (f_X6_wrong z h v0 4).bind fun (x5, h6) =>
      (bz x5).bind fun x7 =>
      some (x7, h6)
  else none
theorem k_X6_readPerson {n : Nat} {z : Sh} {h : Hp} {v0 : Nat} {w : Int32 × Hp} (hf : f_X6_readPerson n z h v0 = some w) : z.K v0 = 6 := by
  unfold f_X6_readPerson at hf
  exact (if_some hf).1
set_option maxHeartbeats 4000000 in
theorem w_X6_readPerson_115 {p : Program} {l : Launch} {e : Env} {s : State} {m : MethodId} {args : Array Value} {below : List Frame} {meth : Method} {c : Code} {s0 : State} {E : Ev} {z : Sh} {n : Nat} {r : Int32} {h' : Hp} (G : Gl s0 E) (B : Bd p s0 s E m c cX6_readPerson 6 RX6) (hz : s0.heap.size ≤ z.sz) (hc0 : s.heap.size + 0 = z.sz) (hr : meth.sig.returnType = (some .boolean)) (hlk : meth.locks = false) : ∀ (h : Hp) (v0 : Nat) (v1 : Int32) (v2 : Int32) (H : Heap) (locs : List Loc) (ls : Array Slot), Pw s0 s E z h H locs → lv_has ls 6 [(0, .ref v0), (1, .int v1), (2, .int v2)] → f_X6_readPerson_115 n z h v0 v1 v2 = some (r, h') → W p l e (rmO 6 135) s m args below meth c H locs 0 0 (Zt below s0 E z h' (some (.int r)) args s 0 0) (F0 m 115 ls []) := by
  have hx := B.1
  have hb := B.2.1
  intro h v0 v1 v2 H locs ls hw hl hf
  unfold f_X6_readPerson_115 at hf
  refine lv_aload_n hx hb dX6_readPerson_115 rfl (lv_at hl 0 rfl) ?_
  obtain ⟨a1, e, hf⟩ := ob hf
  refine q_getR e B hw fd_6_8.1 fd_6_8.2.1 fd_6_8.2.2.1 fd_6_8.2.2.2.1 fd_6_8.2.2.2.2 rfl tw_1_113 dX6_readPerson_116 ?_
  refine lv_iload_n hx hb dX6_readPerson_119 rfl (lv_at hl 1 rfl) ?_
  refine lv_iload_n hx hb dX6_readPerson_120 rfl (lv_at hl 2 rfl) ?_
  obtain ⟨h2, e, hf⟩ := ob hf
  refine q_callVN (As := [.int v1, .int v2]) (rest := []) (st1 := []) (c_X8_addPerson G e) B hw hz hc0 (k_X8_addPerson e) (by decide) (ci := 8) rfl rfl my_X8_addPerson mv_X8_addPerson tw_3_97 ⟨Nat.le_of_ble_eq_true rfl, Nat.le_of_ble_eq_true rfl⟩ ⟨Nat.zero_le _, Nat.zero_le _⟩ rfl hl.1 rfl rfl (Nat.le_of_ble_eq_true rfl) dX6_readPerson_121 (fun H locs hw => ?_)
  refine lv_iconst (v := 1) hx hb dX6_readPerson_124 (by decide) ?_
  obtain ⟨rfl, rfl⟩ := so2 hf
  exact q_zret (Or.inr rfl) B hw hz hc0 hr hlk dX6_readPerson_125
set_option maxHeartbeats 4000000 in
theorem w_X6_readPerson_108 {p : Program} {l : Launch} {e : Env} {s : State} {m : MethodId} {args : Array Value} {below : List Frame} {meth : Method} {c : Code} {s0 : State} {E : Ev} {z : Sh} {n : Nat} {k29 : Hp → Nat → Int32 → Int32 → Int32 → Option (Int32 × Hp)} {r : Int32} {h' : Hp} (G : Gl s0 E) (B : Bd p s0 s E m c cX6_readPerson 6 RX6) (hz : s0.heap.size ≤ z.sz) (hc0 : s.heap.size + 0 = z.sz) (hr : meth.sig.returnType = (some .boolean)) (hlk : meth.locks = false) (hk29 : ∀ (h : Hp) (v0 : Nat) (v1 : Int32) (v2 : Int32) (v3 : Int32) (H : Heap) (locs : List Loc) (ls : Array Slot), Pw s0 s E z h H locs → lv_has ls 6 [(0, .ref v0), (1, .int v1), (2, .int v2), (3, .int v3)] → k29 h v0 v1 v2 v3 = some (r, h') → W p l e (rmO 6 135) s m args below meth c H locs 0 0 (Zt below s0 E z h' (some (.int r)) args s 0 0) (F0 m 29 ls [])) : ∀ (h : Hp) (v0 : Nat) (v1 : Int32) (v3 : Int32) (u0 : Int32) (H : Heap) (locs : List Loc) (ls : Array Slot), Pw s0 s E z h H locs → lv_has ls 6 [(0, .ref v0), (1, .int v1), (3, .int v3)] → f_X6_readPerson_108 n z k29 h v0 v1 v3 u0 = some (r, h') → W p l e (rmO 6 135) s m args below meth c H locs 0 0 (Zt below s0 E z h' (some (.int r)) args s 0 0) (F0 m 108 ls [.int u0]) := by
  have hx := B.1
  have hb := B.2.1
  intro h v0 v1 v3 u0 H locs ls hw hl hf
  unfold f_X6_readPerson_108 at hf
  refine lv_istore_n (lv' := [(2, .int u0), (0, .ref v0), (1, .int v1), (3, .int v3)]) hx hb dX6_readPerson_108 rfl hl (by decide) rfl (fun ls hl => ?_)
  obtain ⟨x1, e, hf⟩ := ob hf
  refine lv_iinc (v := x1) (lv' := [(3, .int x1), (2, .int u0), (0, .ref v0), (1, .int v1)]) hx hb dX6_readPerson_109 hl (k := 3) rfl (Option.some.inj e) (by decide) rfl (fun ls hl => ?_)
  refine lv_goto (tgt := 29) hx hb dX6_readPerson_112 (by decide) ?_
  exact hk29 h v0 v1 u0 x1 _ _ _ hw (lv_sub hl [2, 3, 1, 0] rfl) hf
set_option maxHeartbeats 4000000 in
theorem w_X6_readPerson_96 {p : Program} {l : Launch} {e : Env} {s : State} {m : MethodId} {args : Array Value} {below : List Frame} {meth : Method} {c : Code} {s0 : State} {E : Ev} {z : Sh} {n : Nat} {k29 : Hp → Nat → Int32 → Int32 → Int32 → Option (Int32 × Hp)} {r : Int32} {h' : Hp} (G : Gl s0 E) (B : Bd p s0 s E m c cX6_readPerson 6 RX6) (hz : s0.heap.size ≤ z.sz) (hc0 : s.heap.size + 0 = z.sz) (hr : meth.sig.returnType = (some .boolean)) (hlk : meth.locks = false) (hk29 : ∀ (h : Hp) (v0 : Nat) (v1 : Int32) (v2 : Int32) (v3 : Int32) (H : Heap) (locs : List Loc) (ls : Array Slot), Pw s0 s E z h H locs → lv_has ls 6 [(0, .ref v0), (1, .int v1), (2, .int v2), (3, .int v3)] → k29 h v0 v1 v2 v3 = some (r, h') → W p l e (rmO 6 135) s m args below meth c H locs 0 0 (Zt below s0 E z h' (some (.int r)) args s 0 0) (F0 m 29 ls [])) : ∀ (h : Hp) (v0 : Nat) (v2 : Int32) (v3 : Int32) (v4 : Int32) (v5 : Int32) (u0 : Int32) (H : Heap) (locs : List Loc) (ls : Array Slot), Pw s0 s E z h H locs → lv_has ls 6 [(0, .ref v0), (2, .int v2), (3, .int v3), (4, .int v4), (5, .int v5)] → f_X6_readPerson_96 n z k29 h v0 v2 v3 v4 v5 u0 = some (r, h') → W p l e (rmO 6 135) s m args below meth c H locs 0 0 (Zt below s0 E z h' (some (.int r)) args s 0 0) (F0 m 96 ls [.int u0]) := by
  have hx := B.1
  have hb := B.2.1
  intro h v0 v2 v3 v4 v5 u0 H locs ls hw hl hf
  unfold f_X6_readPerson_96 at hf
  refine lv_istore_n (lv' := [(1, .int u0), (0, .ref v0), (2, .int v2), (3, .int v3), (4, .int v4), (5, .int v5)]) hx hb dX6_readPerson_96 rfl hl (by decide) rfl (fun ls hl => ?_)
  refine lv_iload hx hb dX6_readPerson_97 (lv_at hl 4 rfl) ?_
  refine lv_if_eq (tgt := 106) hx hb dX6_readPerson_99 (by decide) (fun c1 => ?_) (fun c1 => ?_)
  · have hf := (if_pos c1).symm.trans hf
    refine lv_iload hx hb dX6_readPerson_106 (lv_at hl 5 rfl) ?_
    exact w_X6_readPerson_108 G B hz hc0 hr hlk hk29 h v0 u0 v3 v5 _ _ _ hw (lv_sub hl [1, 0, 3] rfl) hf
  · have hf := (if_neg c1).symm.trans hf
    refine lv_iload_n hx hb dX6_readPerson_102 rfl (lv_at hl 2 rfl) ?_
    refine lv_goto (tgt := 108) hx hb dX6_readPerson_103 (by decide) ?_
    exact w_X6_readPerson_108 G B hz hc0 hr hlk hk29 h v0 u0 v3 v2 _ _ _ hw (lv_sub hl [1, 0, 3] rfl) hf
set_option maxHeartbeats 4000000 in
theorem w_X6_readPerson_55 {p : Program} {l : Launch} {e : Env} {s : State} {m : MethodId} {args : Array Value} {below : List Frame} {meth : Method} {c : Code} {s0 : State} {E : Ev} {z : Sh} {n : Nat} {k29 : Hp → Nat → Int32 → Int32 → Int32 → Option (Int32 × Hp)} {r : Int32} {h' : Hp} (G : Gl s0 E) (B : Bd p s0 s E m c cX6_readPerson 6 RX6) (hz : s0.heap.size ≤ z.sz) (hc0 : s.heap.size + 0 = z.sz) (hr : meth.sig.returnType = (some .boolean)) (hlk : meth.locks = false) (hk29 : ∀ (h : Hp) (v0 : Nat) (v1 : Int32) (v2 : Int32) (v3 : Int32) (H : Heap) (locs : List Loc) (ls : Array Slot), Pw s0 s E z h H locs → lv_has ls 6 [(0, .ref v0), (1, .int v1), (2, .int v2), (3, .int v3)] → k29 h v0 v1 v2 v3 = some (r, h') → W p l e (rmO 6 135) s m args below meth c H locs 0 0 (Zt below s0 E z h' (some (.int r)) args s 0 0) (F0 m 29 ls [])) : ∀ (h : Hp) (v0 : Nat) (v1 : Int32) (v2 : Int32) (v3 : Int32) (H : Heap) (locs : List Loc) (ls : Array Slot), Pw s0 s E z h H locs → lv_has ls 6 [(0, .ref v0), (1, .int v1), (2, .int v2), (3, .int v3)] → f_X6_readPerson_55 n z k29 h v0 v1 v2 v3 = some (r, h') → W p l e (rmO 6 135) s m args below meth c H locs 0 0 (Zt below s0 E z h' (some (.int r)) args s 0 0) (F0 m 55 ls []) := by
  have hx := B.1
  have hb := B.2.1
  intro h v0 v1 v2 v3 H locs ls hw hl hf
  unfold f_X6_readPerson_55 at hf
  refine lv_aload_n hx hb dX6_readPerson_55 rfl (lv_at hl 0 rfl) ?_
  refine q_ldcS (tx := "talent") G (i := 16) (List.mem_of_getElem? (i := 6) (by decide +kernel)) B hw dX6_readPerson_56 ?_
  obtain ⟨x1, e, hf⟩ := ob hf
  refine q_callV (As := [.ref (z.st 16)]) (rest := []) (st1 := [.int x1]) (c_X6_is G e) B hw hz hc0 (k_X6_is e) (by decide) (ci := 6) rfl rfl my_X6_is mv_X6_is tw_3_46 ⟨Nat.le_of_ble_eq_true rfl, Nat.le_of_ble_eq_true rfl⟩ ⟨Nat.zero_le _, Nat.zero_le _⟩ rfl hl.1 rfl rfl (Nat.le_of_ble_eq_true rfl) dX6_readPerson_58 (fun H locs hw => ?_)
  refine lv_istore (lv' := [(4, .int x1), (0, .ref v0), (1, .int v1), (2, .int v2), (3, .int v3)]) hx hb dX6_readPerson_61 hl (by decide) rfl (fun ls hl => ?_)
  refine lv_aload_n hx hb dX6_readPerson_63 rfl (lv_at hl 1 rfl) ?_
  obtain ⟨h2, e, hf⟩ := ob hf
  refine q_callV (As := []) (rest := []) (st1 := []) (c_X6_next G e) B hw hz hc0 (k_X6_next e) (by decide) (ci := 6) rfl rfl my_X6_next mv_X6_next tw_2_171 ⟨Nat.le_of_ble_eq_true rfl, Nat.le_of_ble_eq_true rfl⟩ ⟨Nat.zero_le _, Nat.zero_le _⟩ rfl hl.1 rfl rfl (Nat.le_of_ble_eq_true rfl) dX6_readPerson_64 (fun H locs hw => ?_)
  refine lv_aload_n hx hb dX6_readPerson_67 rfl (lv_at hl 1 rfl) ?_
  refine lv_iconst (v := 0) hx hb dX6_readPerson_68 (by decide) ?_
  refine lv_bipush (v := 9) hx hb dX6_readPerson_69 (by decide) ?_
  obtain ⟨⟨x3, h4⟩, e, hf⟩ := ob hf
  refine q_callV (As := [.int 0, .int 9]) (rest := []) (st1 := [.int x3]) (c_X6_takeNumber G e) B hw hz hc0 (k_X6_takeNumber e) (by decide) (ci := 6) rfl rfl my_X6_takeNumber mv_X6_takeNumber tw_3_76 ⟨Nat.le_of_ble_eq_true rfl, Nat.le_of_ble_eq_true rfl⟩ ⟨Nat.zero_le _, Nat.zero_le _⟩ rfl hl.1 rfl rfl (Nat.le_of_ble_eq_true rfl) dX6_readPerson_71 (fun H locs hw => ?_)
  refine lv_istore (lv' := [(5, .int x3), (4, .int x1), (0, .ref v0), (1, .int v1), (2, .int v2), (3, .int v3)]) hx hb dX6_readPerson_74 hl (by decide) rfl (fun ls hl => ?_)
  refine lv_aload_n hx hb dX6_readPerson_76 rfl (lv_at hl 2 rfl) ?_
  obtain ⟨x5, e, hf⟩ := ob hf
  refine q_getI e B hw fd_6_0.1 fd_6_0.2.1 fd_6_0.2.2.1 fd_6_0.2.2.2.1 fd_6_0.2.2.2.2 rfl tw_1_103 dX6_readPerson_77 ?_
  refine lv_if_eq (tgt := 85) hx hb dX6_readPerson_80 (by decide) (fun c6 => ?_) (fun c6 => ?_)
  · have hf := (if_pos c6).symm.trans hf
    refine lv_iload hx hb dX6_readPerson_85 (lv_at hl 1 rfl) ?_
    refine lv_if_eq (tgt := 95) hx hb dX6_readPerson_87 (by decide) (fun c7 => ?_) (fun c7 => ?_)
    · have hf := (if_pos c7).symm.trans hf
      refine lv_iload_n hx hb dX6_readPerson_95 rfl (lv_at hl 3 rfl) ?_
      exact w_X6_readPerson_96 G B hz hc0 hr hlk hk29 h4 v0 v2 v3 x1 x3 v1 _ _ _ hw (lv_sub hl [2, 4, 5, 1, 0] rfl) hf
    · have hf := (if_neg c7).symm.trans hf
      refine lv_iload hx hb dX6_readPerson_90 (lv_at hl 0 rfl) ?_
      refine lv_goto (tgt := 96) hx hb dX6_readPerson_92 (by decide) ?_
      exact w_X6_readPerson_96 G B hz hc0 hr hlk hk29 h4 v0 v2 v3 x1 x3 x3 _ _ _ hw (lv_sub hl [2, 4, 5, 1, 0] rfl) hf
  · have hf := (if_neg c6).symm.trans hf
    refine lv_iconst (v := 0) hx hb dX6_readPerson_83 (by decide) ?_
    obtain ⟨rfl, rfl⟩ := so2 hf
    exact q_zret (Or.inl rfl) B hw hz hc0 hr hlk dX6_readPerson_84
set_option maxHeartbeats 4000000 in
theorem w_X6_readPerson_29 {p : Program} {l : Launch} {e : Env} {s : State} {m : MethodId} {args : Array Value} {below : List Frame} {meth : Method} {c : Code} {s0 : State} {E : Ev} {z : Sh} {n : Nat} {r : Int32} {h' : Hp} (G : Gl s0 E) (B : Bd p s0 s E m c cX6_readPerson 6 RX6) (hz : s0.heap.size ≤ z.sz) (hc0 : s.heap.size + 0 = z.sz) (hr : meth.sig.returnType = (some .boolean)) (hlk : meth.locks = false) : ∀ (i : Nat), ∀ (h : Hp) (v0 : Nat) (v1 : Int32) (v2 : Int32) (v3 : Int32) (H : Heap) (locs : List Loc) (ls : Array Slot), Pw s0 s E z h H locs → lv_has ls 6 [(0, .ref v0), (1, .int v1), (2, .int v2), (3, .int v3)] → f_X6_readPerson_29 n z i h v0 v1 v2 v3 = some (r, h') → W p l e (rmO 6 135) s m args below meth c H locs 0 0 (Zt below s0 E z h' (some (.int r)) args s 0 0) (F0 m 29 ls []) := by
  have hx := B.1
  have hb := B.2.1
  intro i
  induction i with
  | zero =>
    intro h v0 v1 v2 v3 H locs ls hw hl hf
    have hf := (f_X6_readPerson_29.eq_1 ..).symm.trans hf
    cases hf
  | succ i ih =>
    intro h v0 v1 v2 v3 H locs ls hw hl hf
    have hf := (f_X6_readPerson_29.eq_2 ..).symm.trans hf
    refine lv_iload_n hx hb dX6_readPerson_29 rfl (lv_at hl 3 rfl) ?_
    refine lv_aload_n hx hb dX6_readPerson_30 rfl (lv_at hl 0 rfl) ?_
    obtain ⟨x1, e, hf⟩ := ob hf
    refine q_getI e B hw fd_6_3.1 fd_6_3.2.1 fd_6_3.2.2.1 fd_6_3.2.2.2.1 fd_6_3.2.2.2.2 rfl tw_1_108 dX6_readPerson_31 ?_
    refine lv_icmp_ge (tgt := 115) hx hb dX6_readPerson_34 (by decide) (fun c2 => ?_) (fun c2 => ?_)
    · have hf := (if_pos c2).symm.trans hf
      exact w_X6_readPerson_115 G B hz hc0 hr hlk  h v0 v1 v2 _ _ _ hw (lv_sub hl [0, 1, 2] rfl) hf
    · have hf := (if_neg c2).symm.trans hf
      refine lv_aload_n hx hb dX6_readPerson_37 rfl (lv_at hl 0 rfl) ?_
      refine q_ldcS (tx := "talent") G (i := 16) (List.mem_of_getElem? (i := 6) (by decide +kernel)) B hw dX6_readPerson_38 ?_
      obtain ⟨x3, e, hf⟩ := ob hf
      refine q_callV (As := [.ref (z.st 16)]) (rest := []) (st1 := [.int x3]) (c_X6_is G e) B hw hz hc0 (k_X6_is e) (by decide) (ci := 6) rfl rfl my_X6_is mv_X6_is tw_3_46 ⟨Nat.le_of_ble_eq_true rfl, Nat.le_of_ble_eq_true rfl⟩ ⟨Nat.zero_le _, Nat.zero_le _⟩ rfl hl.1 rfl rfl (Nat.le_of_ble_eq_true rfl) dX6_readPerson_40 (fun H locs hw => ?_)
      refine lv_if_ne (tgt := 55) hx hb dX6_readPerson_43 (by decide) (fun c4 => ?_) (fun c4 => ?_)
      · have hf := (if_neg c4).symm.trans hf
        exact w_X6_readPerson_55 G B hz hc0 hr hlk ih h v0 v1 v2 v3 _ _ _ hw (lv_sub hl [0, 1, 2, 3] rfl) hf
      · have hf := (if_pos c4).symm.trans hf
        refine lv_aload_n hx hb dX6_readPerson_46 rfl (lv_at hl 0 rfl) ?_
        refine q_ldcS (tx := "fear") G (i := 17) (List.mem_of_getElem? (i := 7) (by decide +kernel)) B hw dX6_readPerson_47 ?_
        obtain ⟨x5, e, hf⟩ := ob hf
        refine q_callV (As := [.ref (z.st 17)]) (rest := []) (st1 := [.int x5]) (c_X6_is G e) B hw hz hc0 (k_X6_is e) (by decide) (ci := 6) rfl rfl my_X6_is mv_X6_is tw_3_46 ⟨Nat.le_of_ble_eq_true rfl, Nat.le_of_ble_eq_true rfl⟩ ⟨Nat.zero_le _, Nat.zero_le _⟩ rfl hl.1 rfl rfl (Nat.le_of_ble_eq_true rfl) dX6_readPerson_49 (fun H locs hw => ?_)
        refine lv_if_eq (tgt := 115) hx hb dX6_readPerson_52 (by decide) (fun c6 => ?_) (fun c6 => ?_)
        · have hf := (if_pos c6).symm.trans hf
          exact w_X6_readPerson_115 G B hz hc0 hr hlk  h v0 v1 v2 _ _ _ hw (lv_sub hl [0, 1, 2] rfl) hf
        · have hf := (if_neg c6).symm.trans hf
          exact w_X6_readPerson_55 G B hz hc0 hr hlk ih h v0 v1 v2 v3 _ _ _ hw (lv_sub hl [0, 1, 2, 3] rfl) hf
set_option maxHeartbeats 4000000 in
theorem c_X6_readPerson {l : Launch} {s0 : State} {E : Ev} (G : Gl s0 E) {n : Nat} {z : Sh} {h : Hp} {v0 : Nat} {r : Int32} {h' : Hp} (hf : f_X6_readPerson n z h v0 = some (r, h')) : Ct l s0 E yX6_readPerson cX6_readPerson 6 (some .boolean) 6 135 [.ref v0] z h h' (some (.int r)) := by
  refine Ct.of G (by decide) (Nat.le_of_ble_eq_true rfl) ?_
  intro p e s m below meth c ls B hw hz hc0 hr hlk hl
  have B : Bd p s0 s E m c cX6_readPerson 6 RX6 := B
  have hx := B.1
  have hb := B.2.1
  have hl : lv_has ls 6 [(0, .ref v0)] := hl
  unfold f_X6_readPerson at hf
  obtain ⟨_, hf⟩ := if_some hf
  refine lv_aload_n hx hb dX6_readPerson_0 rfl (lv_at hl 0 rfl) ?_
  obtain ⟨a1, e, hf⟩ := ob hf
  refine q_getR e B hw fd_6_8.1 fd_6_8.2.1 fd_6_8.2.2.1 fd_6_8.2.2.2.1 fd_6_8.2.2.2.2 rfl tw_1_113 dX6_readPerson_1 ?_
  obtain ⟨x2, e, hf⟩ := ob hf
  refine q_getIN e B hw fd_8_2.1 fd_8_2.2.1 fd_8_2.2.2.1 fd_8_2.2.2.2.1 fd_8_2.2.2.2.2 rfl tw_1_62 dX6_readPerson_4 ?_
  refine lv_bipush (v := 6) hx hb dX6_readPerson_7 (by decide) ?_
  refine lv_icmp_lt (tgt := 18) hx hb dX6_readPerson_9 (by decide) (fun c3 => ?_) (fun c3 => ?_)
  · have hf := (if_pos c3).symm.trans hf
    refine lv_aload_n hx hb dX6_readPerson_18 rfl (lv_at hl 0 rfl) ?_
    obtain ⟨h4, e, hf⟩ := ob hf
    refine q_callV (As := []) (rest := []) (st1 := []) (c_X6_next G e) B hw hz hc0 (k_X6_next e) (by decide) (ci := 6) rfl rfl my_X6_next mv_X6_next tw_2_171 ⟨Nat.le_of_ble_eq_true rfl, Nat.le_of_ble_eq_true rfl⟩ ⟨Nat.zero_le _, Nat.zero_le _⟩ rfl hl.1 rfl rfl (Nat.le_of_ble_eq_true rfl) dX6_readPerson_19 (fun H locs hw => ?_)
    refine lv_iconst (v := 0) hx hb dX6_readPerson_22 (by decide) ?_
    refine lv_istore_n (lv' := [(1, .int 0), (0, .ref v0)]) hx hb dX6_readPerson_23 rfl hl (by decide) rfl (fun ls hl => ?_)
    refine lv_bipush (v := 9) hx hb dX6_readPerson_24 (by decide) ?_
    refine lv_istore_n (lv' := [(2, .int 9), (1, .int 0), (0, .ref v0)]) hx hb dX6_readPerson_26 rfl hl (by decide) rfl (fun ls hl => ?_)
    refine lv_iconst (v := 0) hx hb dX6_readPerson_27 (by decide) ?_
    refine lv_istore_n (lv' := [(3, .int 0), (2, .int 9), (1, .int 0), (0, .ref v0)]) hx hb dX6_readPerson_28 rfl hl (by decide) rfl (fun ls hl => ?_)
    exact w_X6_readPerson_29 G B hz hc0 hr hlk  n h4 v0 0 9 0 _ _ _ hw (lv_sub hl [3, 2, 1, 0] rfl) hf
  · have hf := (if_neg c3).symm.trans hf
    refine lv_aload_n hx hb dX6_readPerson_12 rfl (lv_at hl 0 rfl) ?_
    refine lv_iconst (v := 4) hx hb dX6_readPerson_13 (by decide) ?_
    obtain ⟨⟨x5, h6⟩, e, hf⟩ := ob hf
    refine q_callV (As := [.int 4]) (rest := []) (st1 := [.int x5]) (c_X6_wrong G e) B hw hz hc0 (k_X6_wrong e) (by decide) (ci := 6) rfl rfl my_X6_wrong mv_X6_wrong tw_3_71 ⟨Nat.le_of_ble_eq_true rfl, Nat.le_of_ble_eq_true rfl⟩ ⟨Nat.zero_le _, Nat.zero_le _⟩ rfl hl.1 rfl rfl (Nat.le_of_ble_eq_true rfl) dX6_readPerson_14 (fun H locs hw => ?_)
    obtain ⟨x7, e, hf⟩ := ob hf
    obtain ⟨e1, e⟩ := if_some e
    cases e
    obtain ⟨rfl, rfl⟩ := so2 hf
    exact q_zret e1 B hw hz hc0 hr hlk dX6_readPerson_17
