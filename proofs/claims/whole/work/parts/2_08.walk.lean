/-! SecondLifeModel.goesOn()I -/
def f_X12_goesOn_178 (n : Nat) (z : Sh) (k139 : Hp → Nat → Int32 → Int32 → Option (Int32 × Hp)) (h : Hp) (v0 : Nat) (v2 : Int32) (u0 : Int32) : Option (Int32 × Hp) :=
  (some (v2 + 1)).bind fun x1 =>
  k139 h v0 u0 x1
def f_X12_goesOn_139 (n : Nat) (z : Sh) : Nat → Hp → Nat → Int32 → Int32 → Option (Int32 × Hp)
  | 0, _, _, _, _ => none
  | i + 1, h, v0, v1, v2 =>
    if 3430 ≤ v2 then
      some (v1, h)
    else
      (gR z h 12 v0 27).bind fun a2 =>
      (gR z h 12 v0 28).bind fun a3 =>
      (ldI z h a3 v2).bind fun x4 =>
      (stI z h a2 v2 x4).bind fun h5 =>
      (gR z h5 12 v0 27).bind fun a6 =>
      (ldI z h5 a6 v2).bind fun x7 =>
      if x7 ≤ v1 then
        f_X12_goesOn_178 n z (f_X12_goesOn_139 n z i) h5 v0 v2 v1
      else
        (gR z h5 12 v0 27).bind fun a9 =>
        (ldI z h5 a9 v2).bind fun x10 =>
        f_X12_goesOn_178 n z (f_X12_goesOn_139 n z i) h5 v0 v2 x10
def f_X12_goesOn_127 (n : Nat) (z : Sh) (k26 : Hp → Nat → Int32 → Option (Int32 × Hp)) (h : Hp) (v0 : Nat) (v1 : Int32) : Option (Int32 × Hp) :=
  (some (v1 + 1)).bind fun x1 =>
  k26 h v0 x1
def f_X12_goesOn_100 (n : Nat) (z : Sh) (k26 : Hp → Nat → Int32 → Option (Int32 × Hp)) (h : Hp) (v0 : Nat) (v1 : Int32) : Option (Int32 × Hp) :=
  (f_X12_canDraw z h v0 v1).bind fun x1 =>
  if x1 = 0 then
    f_X12_goesOn_127 n z k26 h v0 v1
  else
    (gI z h 12 v0 25).bind fun x3 =>
    (f_X12_drawnTo n z h v0 x3 v1).bind fun (x4, h5) =>
    (gR z h5 12 v0 27).bind fun a6 =>
    (ldI z h5 a6 v1).bind fun x7 =>
    (f_X12_better z h5 v0 x4 x7).bind fun h8 =>
    f_X12_goesOn_127 n z k26 h8 v0 v1
def f_X12_goesOn_50 (n : Nat) (z : Sh) (k26 : Hp → Nat → Int32 → Option (Int32 × Hp)) : Nat → Hp → Nat → Int32 → Int32 → Option (Int32 × Hp)
  | 0, _, _, _, _ => none
  | i + 1, h, v0, v1, v2 =>
    (gR z h 12 v0 1).bind fun a1 =>
    (ldI z h a1 2).bind fun x2 =>
    if x2 ≤ v2 then
      f_X12_goesOn_100 n z k26 h v0 v1
    else
      (f_X12_isOver z h v0 v1).bind fun x4 =>
      if x4 = 0 then
        (f_X12_livedTo z h v1 v2).bind fun x6 =>
        (gR z h 12 v0 27).bind fun a7 =>
        (ldI z h a7 v1).bind fun x8 =>
        (gI z h 12 v0 25).bind fun x9 =>
        (f_X12_worthOf n z h v0 x9 v1 v2).bind fun (x10, h11) =>
        (f_X12_better z h11 v0 x6 (x8 + x10)).bind fun h12 =>
        (some (v2 + 1)).bind fun x13 =>
        (f_X12_goesOn_50 n z k26 i) h12 v0 v1 x13
      else
        f_X12_goesOn_100 n z k26 h v0 v1
def f_X12_goesOn_26 (n : Nat) (z : Sh) : Nat → Hp → Nat → Int32 → Option (Int32 × Hp)
  | 0, _, _, _ => none
  | i + 1, h, v0, v1 =>
    if 3430 ≤ v1 then
      f_X12_goesOn_139 n z n h v0 (-268435456) 0
    else
      (gR z h 12 v0 27).bind fun a2 =>
      (ldI z h a2 v1).bind fun x3 =>
      if x3 = (-268435456) then
        f_X12_goesOn_127 n z (f_X12_goesOn_26 n z i) h v0 v1
      else
        f_X12_goesOn_50 n z (f_X12_goesOn_26 n z i) n h v0 v1 0
def f_X12_goesOn_2 (n : Nat) (z : Sh) : Nat → Hp → Nat → Int32 → Option (Int32 × Hp)
  | 0, _, _, _ => none
  | i + 1, h, v0, v1 =>
    if 3430 ≤ v1 then
      f_X12_goesOn_26 n z n h v0 0
    else
      (gR z h 12 v0 28).bind fun a2 =>
      (stI z h a2 v1 (-268435456)).bind fun h3 =>
      (some (v1 + 1)).bind fun x4 =>
      (f_X12_goesOn_2 n z i) h3 v0 x4
def f_X12_goesOn (n : Nat) (z : Sh) (h : Hp) (v0 : Nat) : Option (Int32 × Hp) :=
  if z.K v0 = 12 then
    f_X12_goesOn_2 n z n h v0 0
  else none
theorem k_X12_goesOn {n : Nat} {z : Sh} {h : Hp} {v0 : Nat} {w : Int32 × Hp} (hf : f_X12_goesOn n z h v0 = some w) : z.K v0 = 12 := by
  unfold f_X12_goesOn at hf
  exact (if_some hf).1
set_option maxHeartbeats 4000000 in
theorem w_X12_goesOn_178 {p : Program} {l : Launch} {e : Env} {s : State} {m : MethodId} {args : Array Value} {below : List Frame} {meth : Method} {c : Code} {s0 : State} {E : Ev} {z : Sh} {n : Nat} {k139 : Hp → Nat → Int32 → Int32 → Option (Int32 × Hp)} {r : Int32} {h' : Hp} (G : Gl s0 E) (B : Bd p s0 s E m c cX12_goesOn 3 RX12) (hz : s0.heap.size ≤ z.sz) (hc0 : s.heap.size + 0 = z.sz) (hr : meth.sig.returnType = (some .int)) (hlk : meth.locks = false) (hk139 : ∀ (h : Hp) (v0 : Nat) (v1 : Int32) (v2 : Int32) (H : Heap) (locs : List Loc) (ls : Array Slot), Pw s0 s E z h H locs → lv_has ls 3 [(0, .ref v0), (1, .int v1), (2, .int v2)] → k139 h v0 v1 v2 = some (r, h') → W p l e (rmO 4 93) s m args below meth c H locs 0 0 (Zt below s0 E z h' (some (.int r)) args s 0 0) (F0 m 139 ls [])) : ∀ (h : Hp) (v0 : Nat) (v2 : Int32) (u0 : Int32) (H : Heap) (locs : List Loc) (ls : Array Slot), Pw s0 s E z h H locs → lv_has ls 3 [(0, .ref v0), (2, .int v2)] → f_X12_goesOn_178 n z k139 h v0 v2 u0 = some (r, h') → W p l e (rmO 4 93) s m args below meth c H locs 0 0 (Zt below s0 E z h' (some (.int r)) args s 0 0) (F0 m 178 ls [.int u0]) := by
  have hx := B.1
  have hb := B.2.1
  intro h v0 v2 u0 H locs ls hw hl hf
  unfold f_X12_goesOn_178 at hf
  refine lv_istore_n (lv' := [(1, .int u0), (0, .ref v0), (2, .int v2)]) hx hb dX12_goesOn_178 rfl hl (by decide) rfl (fun ls hl => ?_)
  obtain ⟨x1, e, hf⟩ := ob hf
  refine lv_iinc (v := x1) (lv' := [(2, .int x1), (1, .int u0), (0, .ref v0)]) hx hb dX12_goesOn_179 hl (k := 2) rfl (Option.some.inj e) (by decide) rfl (fun ls hl => ?_)
  refine lv_goto (tgt := 139) hx hb dX12_goesOn_182 (by decide) ?_
  exact hk139 h v0 u0 x1 _ _ _ hw (lv_sub hl [2, 1, 0] rfl) hf
set_option maxHeartbeats 4000000 in
theorem w_X12_goesOn_139 {p : Program} {l : Launch} {e : Env} {s : State} {m : MethodId} {args : Array Value} {below : List Frame} {meth : Method} {c : Code} {s0 : State} {E : Ev} {z : Sh} {n : Nat} {r : Int32} {h' : Hp} (G : Gl s0 E) (B : Bd p s0 s E m c cX12_goesOn 3 RX12) (hz : s0.heap.size ≤ z.sz) (hc0 : s.heap.size + 0 = z.sz) (hr : meth.sig.returnType = (some .int)) (hlk : meth.locks = false) : ∀ (i : Nat), ∀ (h : Hp) (v0 : Nat) (v1 : Int32) (v2 : Int32) (H : Heap) (locs : List Loc) (ls : Array Slot), Pw s0 s E z h H locs → lv_has ls 3 [(0, .ref v0), (1, .int v1), (2, .int v2)] → f_X12_goesOn_139 n z i h v0 v1 v2 = some (r, h') → W p l e (rmO 4 93) s m args below meth c H locs 0 0 (Zt below s0 E z h' (some (.int r)) args s 0 0) (F0 m 139 ls []) := by
  have hx := B.1
  have hb := B.2.1
  intro i
  induction i with
  | zero =>
    intro h v0 v1 v2 H locs ls hw hl hf
    have hf := (f_X12_goesOn_139.eq_1 ..).symm.trans hf
    cases hf
  | succ i ih =>
    intro h v0 v1 v2 H locs ls hw hl hf
    have hf := (f_X12_goesOn_139.eq_2 ..).symm.trans hf
    refine lv_iload_n hx hb dX12_goesOn_139 rfl (lv_at hl 2 rfl) ?_
    refine lv_sipush (v := 3430) hx hb dX12_goesOn_140 (by decide) ?_
    refine lv_icmp_ge (tgt := 185) hx hb dX12_goesOn_143 (by decide) (fun c1 => ?_) (fun c1 => ?_)
    · have hf := (if_pos c1).symm.trans hf
      refine lv_iload_n hx hb dX12_goesOn_185 rfl (lv_at hl 1 rfl) ?_
      obtain ⟨rfl, rfl⟩ := so2 hf
      exact q_iret B hw hz hc0 hr hlk dX12_goesOn_186
    · have hf := (if_neg c1).symm.trans hf
      refine lv_aload_n hx hb dX12_goesOn_146 rfl (lv_at hl 0 rfl) ?_
      obtain ⟨a2, e, hf⟩ := ob hf
      refine q_getR e B hw fd_12_27.1 fd_12_27.2.1 fd_12_27.2.2.1 fd_12_27.2.2.2.1 fd_12_27.2.2.2.2 rfl tw_6_70 dX12_goesOn_147 ?_
      refine lv_iload_n hx hb dX12_goesOn_150 rfl (lv_at hl 2 rfl) ?_
      refine lv_aload_n hx hb dX12_goesOn_151 rfl (lv_at hl 0 rfl) ?_
      obtain ⟨a3, e, hf⟩ := ob hf
      refine q_getR e B hw fd_12_28.1 fd_12_28.2.1 fd_12_28.2.2.1 fd_12_28.2.2.2.1 fd_12_28.2.2.2.2 rfl tw_6_71 dX12_goesOn_152 ?_
      refine lv_iload_n hx hb dX12_goesOn_155 rfl (lv_at hl 2 rfl) ?_
      obtain ⟨x4, e, hf⟩ := ob hf
      refine q_ldI e B hw dX12_goesOn_156 ?_
      obtain ⟨h5, e, hf⟩ := ob hf
      refine q_stI e B hw dX12_goesOn_157 (fun H locs hw => ?_)
      refine lv_aload_n hx hb dX12_goesOn_158 rfl (lv_at hl 0 rfl) ?_
      obtain ⟨a6, e, hf⟩ := ob hf
      refine q_getR e B hw fd_12_27.1 fd_12_27.2.1 fd_12_27.2.2.1 fd_12_27.2.2.2.1 fd_12_27.2.2.2.2 rfl tw_6_70 dX12_goesOn_159 ?_
      refine lv_iload_n hx hb dX12_goesOn_162 rfl (lv_at hl 2 rfl) ?_
      obtain ⟨x7, e, hf⟩ := ob hf
      refine q_ldI e B hw dX12_goesOn_163 ?_
      refine lv_iload_n hx hb dX12_goesOn_164 rfl (lv_at hl 1 rfl) ?_
      refine lv_icmp_le (tgt := 177) hx hb dX12_goesOn_165 (by decide) (fun c8 => ?_) (fun c8 => ?_)
      · have hf := (if_pos c8).symm.trans hf
        refine lv_iload_n hx hb dX12_goesOn_177 rfl (lv_at hl 1 rfl) ?_
        exact w_X12_goesOn_178 G B hz hc0 hr hlk ih h5 v0 v2 v1 _ _ _ hw (lv_sub hl [0, 2] rfl) hf
      · have hf := (if_neg c8).symm.trans hf
        refine lv_aload_n hx hb dX12_goesOn_168 rfl (lv_at hl 0 rfl) ?_
        obtain ⟨a9, e, hf⟩ := ob hf
        refine q_getR e B hw fd_12_27.1 fd_12_27.2.1 fd_12_27.2.2.1 fd_12_27.2.2.2.1 fd_12_27.2.2.2.2 rfl tw_6_70 dX12_goesOn_169 ?_
        refine lv_iload_n hx hb dX12_goesOn_172 rfl (lv_at hl 2 rfl) ?_
        obtain ⟨x10, e, hf⟩ := ob hf
        refine q_ldI e B hw dX12_goesOn_173 ?_
        refine lv_goto (tgt := 178) hx hb dX12_goesOn_174 (by decide) ?_
        exact w_X12_goesOn_178 G B hz hc0 hr hlk ih h5 v0 v2 x10 _ _ _ hw (lv_sub hl [0, 2] rfl) hf
set_option maxHeartbeats 4000000 in
theorem w_X12_goesOn_127 {p : Program} {l : Launch} {e : Env} {s : State} {m : MethodId} {args : Array Value} {below : List Frame} {meth : Method} {c : Code} {s0 : State} {E : Ev} {z : Sh} {n : Nat} {k26 : Hp → Nat → Int32 → Option (Int32 × Hp)} {r : Int32} {h' : Hp} (G : Gl s0 E) (B : Bd p s0 s E m c cX12_goesOn 3 RX12) (hz : s0.heap.size ≤ z.sz) (hc0 : s.heap.size + 0 = z.sz) (hr : meth.sig.returnType = (some .int)) (hlk : meth.locks = false) (hk26 : ∀ (h : Hp) (v0 : Nat) (v1 : Int32) (H : Heap) (locs : List Loc) (ls : Array Slot), Pw s0 s E z h H locs → lv_has ls 3 [(0, .ref v0), (1, .int v1)] → k26 h v0 v1 = some (r, h') → W p l e (rmO 4 93) s m args below meth c H locs 0 0 (Zt below s0 E z h' (some (.int r)) args s 0 0) (F0 m 26 ls [])) : ∀ (h : Hp) (v0 : Nat) (v1 : Int32) (H : Heap) (locs : List Loc) (ls : Array Slot), Pw s0 s E z h H locs → lv_has ls 3 [(0, .ref v0), (1, .int v1)] → f_X12_goesOn_127 n z k26 h v0 v1 = some (r, h') → W p l e (rmO 4 93) s m args below meth c H locs 0 0 (Zt below s0 E z h' (some (.int r)) args s 0 0) (F0 m 127 ls []) := by
  have hx := B.1
  have hb := B.2.1
  intro h v0 v1 H locs ls hw hl hf
  unfold f_X12_goesOn_127 at hf
  obtain ⟨x1, e, hf⟩ := ob hf
  refine lv_iinc (v := x1) (lv' := [(1, .int x1), (0, .ref v0)]) hx hb dX12_goesOn_127 hl (k := 1) rfl (Option.some.inj e) (by decide) rfl (fun ls hl => ?_)
  refine lv_goto (tgt := 26) hx hb dX12_goesOn_130 (by decide) ?_
  exact hk26 h v0 x1 _ _ _ hw (lv_sub hl [1, 0] rfl) hf
set_option maxHeartbeats 4000000 in
theorem w_X12_goesOn_100 {p : Program} {l : Launch} {e : Env} {s : State} {m : MethodId} {args : Array Value} {below : List Frame} {meth : Method} {c : Code} {s0 : State} {E : Ev} {z : Sh} {n : Nat} {k26 : Hp → Nat → Int32 → Option (Int32 × Hp)} {r : Int32} {h' : Hp} (G : Gl s0 E) (B : Bd p s0 s E m c cX12_goesOn 3 RX12) (hz : s0.heap.size ≤ z.sz) (hc0 : s.heap.size + 0 = z.sz) (hr : meth.sig.returnType = (some .int)) (hlk : meth.locks = false) (hk26 : ∀ (h : Hp) (v0 : Nat) (v1 : Int32) (H : Heap) (locs : List Loc) (ls : Array Slot), Pw s0 s E z h H locs → lv_has ls 3 [(0, .ref v0), (1, .int v1)] → k26 h v0 v1 = some (r, h') → W p l e (rmO 4 93) s m args below meth c H locs 0 0 (Zt below s0 E z h' (some (.int r)) args s 0 0) (F0 m 26 ls [])) : ∀ (h : Hp) (v0 : Nat) (v1 : Int32) (H : Heap) (locs : List Loc) (ls : Array Slot), Pw s0 s E z h H locs → lv_has ls 3 [(0, .ref v0), (1, .int v1)] → f_X12_goesOn_100 n z k26 h v0 v1 = some (r, h') → W p l e (rmO 4 93) s m args below meth c H locs 0 0 (Zt below s0 E z h' (some (.int r)) args s 0 0) (F0 m 100 ls []) := by
  have hx := B.1
  have hb := B.2.1
  intro h v0 v1 H locs ls hw hl hf
  unfold f_X12_goesOn_100 at hf
  refine lv_aload_n hx hb dX12_goesOn_100 rfl (lv_at hl 0 rfl) ?_
  refine lv_iload_n hx hb dX12_goesOn_101 rfl (lv_at hl 1 rfl) ?_
  obtain ⟨x1, e, hf⟩ := ob hf
  refine q_callV (As := [.int v1]) (rest := []) (st1 := [.int x1]) (c_X12_canDraw G e) B hw hz hc0 (k_X12_canDraw e) (by decide) (ci := 12) rfl rfl my_X12_canDraw mv_X12_canDraw tw_8_1 ⟨Nat.le_of_ble_eq_true rfl, Nat.le_of_ble_eq_true rfl⟩ ⟨Nat.zero_le _, Nat.zero_le _⟩ rfl hl.1 rfl rfl (Nat.le_of_ble_eq_true rfl) dX12_goesOn_102 (fun H locs hw => ?_)
  refine lv_if_eq (tgt := 127) hx hb dX12_goesOn_105 (by decide) (fun c2 => ?_) (fun c2 => ?_)
  · have hf := (if_pos c2).symm.trans hf
    exact w_X12_goesOn_127 G B hz hc0 hr hlk hk26 h v0 v1 _ _ _ hw (lv_sub hl [0, 1] rfl) hf
  · have hf := (if_neg c2).symm.trans hf
    refine lv_aload_n hx hb dX12_goesOn_108 rfl (lv_at hl 0 rfl) ?_
    refine lv_aload_n hx hb dX12_goesOn_109 rfl (lv_at hl 0 rfl) ?_
    refine lv_aload_n hx hb dX12_goesOn_110 rfl (lv_at hl 0 rfl) ?_
    obtain ⟨x3, e, hf⟩ := ob hf
    refine q_getI e B hw fd_12_25.1 fd_12_25.2.1 fd_12_25.2.2.1 fd_12_25.2.2.2.1 fd_12_25.2.2.2.2 rfl tw_6_68 dX12_goesOn_111 ?_
    refine lv_iload_n hx hb dX12_goesOn_114 rfl (lv_at hl 1 rfl) ?_
    obtain ⟨⟨x4, h5⟩, e, hf⟩ := ob hf
    refine q_callV (As := [.int x3, .int v1]) (rest := [.ref v0]) (st1 := [.int x4, .ref v0]) (c_X12_drawnTo G e) B hw hz hc0 (k_X12_drawnTo e) (by decide) (ci := 12) rfl rfl my_X12_drawnTo mv_X12_drawnTo tw_7_135 ⟨Nat.le_of_ble_eq_true rfl, Nat.le_of_ble_eq_true rfl⟩ ⟨Nat.zero_le _, Nat.zero_le _⟩ rfl hl.1 rfl rfl (Nat.le_of_ble_eq_true rfl) dX12_goesOn_115 (fun H locs hw => ?_)
    refine lv_aload_n hx hb dX12_goesOn_118 rfl (lv_at hl 0 rfl) ?_
    obtain ⟨a6, e, hf⟩ := ob hf
    refine q_getR e B hw fd_12_27.1 fd_12_27.2.1 fd_12_27.2.2.1 fd_12_27.2.2.2.1 fd_12_27.2.2.2.2 rfl tw_6_70 dX12_goesOn_119 ?_
    refine lv_iload_n hx hb dX12_goesOn_122 rfl (lv_at hl 1 rfl) ?_
    obtain ⟨x7, e, hf⟩ := ob hf
    refine q_ldI e B hw dX12_goesOn_123 ?_
    obtain ⟨h8, e, hf⟩ := ob hf
    refine q_callV (As := [.int x4, .int x7]) (rest := []) (st1 := []) (c_X12_better G e) B hw hz hc0 (k_X12_better e) (by decide) (ci := 12) rfl rfl my_X12_better mv_X12_better tw_8_43 ⟨Nat.le_of_ble_eq_true rfl, Nat.le_of_ble_eq_true rfl⟩ ⟨Nat.zero_le _, Nat.zero_le _⟩ rfl hl.1 rfl rfl (Nat.le_of_ble_eq_true rfl) dX12_goesOn_124 (fun H locs hw => ?_)
    exact w_X12_goesOn_127 G B hz hc0 hr hlk hk26 h8 v0 v1 _ _ _ hw (lv_sub hl [0, 1] rfl) hf
set_option maxHeartbeats 4000000 in
theorem w_X12_goesOn_50 {p : Program} {l : Launch} {e : Env} {s : State} {m : MethodId} {args : Array Value} {below : List Frame} {meth : Method} {c : Code} {s0 : State} {E : Ev} {z : Sh} {n : Nat} {k26 : Hp → Nat → Int32 → Option (Int32 × Hp)} {r : Int32} {h' : Hp} (G : Gl s0 E) (B : Bd p s0 s E m c cX12_goesOn 3 RX12) (hz : s0.heap.size ≤ z.sz) (hc0 : s.heap.size + 0 = z.sz) (hr : meth.sig.returnType = (some .int)) (hlk : meth.locks = false) (hk26 : ∀ (h : Hp) (v0 : Nat) (v1 : Int32) (H : Heap) (locs : List Loc) (ls : Array Slot), Pw s0 s E z h H locs → lv_has ls 3 [(0, .ref v0), (1, .int v1)] → k26 h v0 v1 = some (r, h') → W p l e (rmO 4 93) s m args below meth c H locs 0 0 (Zt below s0 E z h' (some (.int r)) args s 0 0) (F0 m 26 ls [])) : ∀ (i : Nat), ∀ (h : Hp) (v0 : Nat) (v1 : Int32) (v2 : Int32) (H : Heap) (locs : List Loc) (ls : Array Slot), Pw s0 s E z h H locs → lv_has ls 3 [(0, .ref v0), (1, .int v1), (2, .int v2)] → f_X12_goesOn_50 n z k26 i h v0 v1 v2 = some (r, h') → W p l e (rmO 4 93) s m args below meth c H locs 0 0 (Zt below s0 E z h' (some (.int r)) args s 0 0) (F0 m 50 ls []) := by
  have hx := B.1
  have hb := B.2.1
  intro i
  induction i with
  | zero =>
    intro h v0 v1 v2 H locs ls hw hl hf
    have hf := (f_X12_goesOn_50.eq_1 ..).symm.trans hf
    cases hf
  | succ i ih =>
    intro h v0 v1 v2 H locs ls hw hl hf
    have hf := (f_X12_goesOn_50.eq_2 ..).symm.trans hf
    refine lv_iload_n hx hb dX12_goesOn_50 rfl (lv_at hl 2 rfl) ?_
    refine lv_aload_n hx hb dX12_goesOn_51 rfl (lv_at hl 0 rfl) ?_
    obtain ⟨a1, e, hf⟩ := ob hf
    refine q_getR e B hw fd_12_1.1 fd_12_1.2.1 fd_12_1.2.2.1 fd_12_1.2.2.2.1 fd_12_1.2.2.2.2 rfl tw_6_44 dX12_goesOn_52 ?_
    refine lv_iconst (v := 2) hx hb dX12_goesOn_55 (by decide) ?_
    obtain ⟨x2, e, hf⟩ := ob hf
    refine q_ldI e B hw dX12_goesOn_56 ?_
    refine lv_icmp_ge (tgt := 100) hx hb dX12_goesOn_57 (by decide) (fun c3 => ?_) (fun c3 => ?_)
    · have hf := (if_pos c3).symm.trans hf
      exact w_X12_goesOn_100 G B hz hc0 hr hlk hk26 h v0 v1 _ _ _ hw (lv_sub hl [0, 1] rfl) hf
    · have hf := (if_neg c3).symm.trans hf
      refine lv_aload_n hx hb dX12_goesOn_60 rfl (lv_at hl 0 rfl) ?_
      refine lv_iload_n hx hb dX12_goesOn_61 rfl (lv_at hl 1 rfl) ?_
      obtain ⟨x4, e, hf⟩ := ob hf
      refine q_callV (As := [.int v1]) (rest := []) (st1 := [.int x4]) (c_X12_isOver G e) B hw hz hc0 (k_X12_isOver e) (by decide) (ci := 12) rfl rfl my_X12_isOver mv_X12_isOver tw_7_55 ⟨Nat.le_of_ble_eq_true rfl, Nat.le_of_ble_eq_true rfl⟩ ⟨Nat.zero_le _, Nat.zero_le _⟩ rfl hl.1 rfl rfl (Nat.le_of_ble_eq_true rfl) dX12_goesOn_62 (fun H locs hw => ?_)
      refine lv_if_ne (tgt := 100) hx hb dX12_goesOn_65 (by decide) (fun c5 => ?_) (fun c5 => ?_)
      · have hf := (if_neg c5).symm.trans hf
        exact w_X12_goesOn_100 G B hz hc0 hr hlk hk26 h v0 v1 _ _ _ hw (lv_sub hl [0, 1] rfl) hf
      · have hf := (if_pos c5).symm.trans hf
        refine lv_aload_n hx hb dX12_goesOn_68 rfl (lv_at hl 0 rfl) ?_
        refine lv_iload_n hx hb dX12_goesOn_69 rfl (lv_at hl 1 rfl) ?_
        refine lv_iload_n hx hb dX12_goesOn_70 rfl (lv_at hl 2 rfl) ?_
        obtain ⟨x6, e, hf⟩ := ob hf
        refine q_callS (As := [.int v1, .int v2]) (rest := [.ref v0]) (st1 := [.int x6, .ref v0]) (c_X12_livedTo G e) B hw hz hc0 my_X12_livedTo mv_X12_livedTo tw_7_112 ⟨Nat.le_of_ble_eq_true rfl, Nat.le_of_ble_eq_true rfl⟩ ⟨Nat.zero_le _, Nat.zero_le _⟩ rfl hl.1 rfl rfl (Nat.le_of_ble_eq_true rfl) dX12_goesOn_71 (fun H locs hw => ?_)
        refine lv_aload_n hx hb dX12_goesOn_74 rfl (lv_at hl 0 rfl) ?_
        obtain ⟨a7, e, hf⟩ := ob hf
        refine q_getR e B hw fd_12_27.1 fd_12_27.2.1 fd_12_27.2.2.1 fd_12_27.2.2.2.1 fd_12_27.2.2.2.2 rfl tw_6_70 dX12_goesOn_75 ?_
        refine lv_iload_n hx hb dX12_goesOn_78 rfl (lv_at hl 1 rfl) ?_
        obtain ⟨x8, e, hf⟩ := ob hf
        refine q_ldI e B hw dX12_goesOn_79 ?_
        refine lv_aload_n hx hb dX12_goesOn_80 rfl (lv_at hl 0 rfl) ?_
        refine lv_aload_n hx hb dX12_goesOn_81 rfl (lv_at hl 0 rfl) ?_
        obtain ⟨x9, e, hf⟩ := ob hf
        refine q_getI e B hw fd_12_25.1 fd_12_25.2.1 fd_12_25.2.2.1 fd_12_25.2.2.2.1 fd_12_25.2.2.2.2 rfl tw_6_68 dX12_goesOn_82 ?_
        refine lv_iload_n hx hb dX12_goesOn_85 rfl (lv_at hl 1 rfl) ?_
        refine lv_iload_n hx hb dX12_goesOn_86 rfl (lv_at hl 2 rfl) ?_
        obtain ⟨⟨x10, h11⟩, e, hf⟩ := ob hf
        refine q_callV (As := [.int x9, .int v1, .int v2]) (rest := [.int x8, .int x6, .ref v0]) (st1 := [.int x10, .int x8, .int x6, .ref v0]) (c_X12_worthOf G e) B hw hz hc0 (k_X12_worthOf e) (by decide) (ci := 12) rfl rfl my_X12_worthOf mv_X12_worthOf tw_7_62 ⟨Nat.le_of_ble_eq_true rfl, Nat.le_of_ble_eq_true rfl⟩ ⟨Nat.zero_le _, Nat.zero_le _⟩ rfl hl.1 rfl rfl (Nat.le_of_ble_eq_true rfl) dX12_goesOn_87 (fun H locs hw => ?_)
        refine lv_iadd hx hb dX12_goesOn_90 ?_
        obtain ⟨h12, e, hf⟩ := ob hf
        refine q_callV (As := [.int x6, .int (x8 + x10)]) (rest := []) (st1 := []) (c_X12_better G e) B hw hz hc0 (k_X12_better e) (by decide) (ci := 12) rfl rfl my_X12_better mv_X12_better tw_8_43 ⟨Nat.le_of_ble_eq_true rfl, Nat.le_of_ble_eq_true rfl⟩ ⟨Nat.zero_le _, Nat.zero_le _⟩ rfl hl.1 rfl rfl (Nat.le_of_ble_eq_true rfl) dX12_goesOn_91 (fun H locs hw => ?_)
        obtain ⟨x13, e, hf⟩ := ob hf
        refine lv_iinc (v := x13) (lv' := [(2, .int x13), (0, .ref v0), (1, .int v1)]) hx hb dX12_goesOn_94 hl (k := 2) rfl (Option.some.inj e) (by decide) rfl (fun ls hl => ?_)
        refine lv_goto (tgt := 50) hx hb dX12_goesOn_97 (by decide) ?_
        exact ih h12 v0 v1 x13 _ _ _ hw (lv_sub hl [1, 2, 0] rfl) hf
set_option maxHeartbeats 4000000 in
theorem w_X12_goesOn_26 {p : Program} {l : Launch} {e : Env} {s : State} {m : MethodId} {args : Array Value} {below : List Frame} {meth : Method} {c : Code} {s0 : State} {E : Ev} {z : Sh} {n : Nat} {r : Int32} {h' : Hp} (G : Gl s0 E) (B : Bd p s0 s E m c cX12_goesOn 3 RX12) (hz : s0.heap.size ≤ z.sz) (hc0 : s.heap.size + 0 = z.sz) (hr : meth.sig.returnType = (some .int)) (hlk : meth.locks = false) : ∀ (i : Nat), ∀ (h : Hp) (v0 : Nat) (v1 : Int32) (H : Heap) (locs : List Loc) (ls : Array Slot), Pw s0 s E z h H locs → lv_has ls 3 [(0, .ref v0), (1, .int v1)] → f_X12_goesOn_26 n z i h v0 v1 = some (r, h') → W p l e (rmO 4 93) s m args below meth c H locs 0 0 (Zt below s0 E z h' (some (.int r)) args s 0 0) (F0 m 26 ls []) := by
  have hx := B.1
  have hb := B.2.1
  intro i
  induction i with
  | zero =>
    intro h v0 v1 H locs ls hw hl hf
    have hf := (f_X12_goesOn_26.eq_1 ..).symm.trans hf
    cases hf
  | succ i ih =>
    intro h v0 v1 H locs ls hw hl hf
    have hf := (f_X12_goesOn_26.eq_2 ..).symm.trans hf
    refine lv_iload_n hx hb dX12_goesOn_26 rfl (lv_at hl 1 rfl) ?_
    refine lv_sipush (v := 3430) hx hb dX12_goesOn_27 (by decide) ?_
    refine lv_icmp_ge (tgt := 133) hx hb dX12_goesOn_30 (by decide) (fun c1 => ?_) (fun c1 => ?_)
    · have hf := (if_pos c1).symm.trans hf
      refine lv_ldcw hx hb B.2.2.2.1 (B.w tw_8_38 rfl) dX12_goesOn_133 ?_
      refine lv_istore_n (lv' := [(1, .int (-268435456)), (0, .ref v0)]) hx hb dX12_goesOn_136 rfl hl (by decide) rfl (fun ls hl => ?_)
      refine lv_iconst (v := 0) hx hb dX12_goesOn_137 (by decide) ?_
      refine lv_istore_n (lv' := [(2, .int 0), (1, .int (-268435456)), (0, .ref v0)]) hx hb dX12_goesOn_138 rfl hl (by decide) rfl (fun ls hl => ?_)
      exact w_X12_goesOn_139 G B hz hc0 hr hlk  n h v0 (-268435456) 0 _ _ _ hw (lv_sub hl [2, 1, 0] rfl) hf
    · have hf := (if_neg c1).symm.trans hf
      refine lv_aload_n hx hb dX12_goesOn_33 rfl (lv_at hl 0 rfl) ?_
      obtain ⟨a2, e, hf⟩ := ob hf
      refine q_getR e B hw fd_12_27.1 fd_12_27.2.1 fd_12_27.2.2.1 fd_12_27.2.2.2.1 fd_12_27.2.2.2.2 rfl tw_6_70 dX12_goesOn_34 ?_
      refine lv_iload_n hx hb dX12_goesOn_37 rfl (lv_at hl 1 rfl) ?_
      obtain ⟨x3, e, hf⟩ := ob hf
      refine q_ldI e B hw dX12_goesOn_38 ?_
      refine lv_ldcw hx hb B.2.2.2.1 (B.w tw_8_38 rfl) dX12_goesOn_39 ?_
      refine lv_icmp_ne (tgt := 48) hx hb dX12_goesOn_42 (by decide) (fun c4 => ?_) (fun c4 => ?_)
      · have hf := (if_neg c4).symm.trans hf
        refine lv_iconst (v := 0) hx hb dX12_goesOn_48 (by decide) ?_
        refine lv_istore_n (lv' := [(2, .int 0), (0, .ref v0), (1, .int v1)]) hx hb dX12_goesOn_49 rfl hl (by decide) rfl (fun ls hl => ?_)
        exact w_X12_goesOn_50 G B hz hc0 hr hlk ih n h v0 v1 0 _ _ _ hw (lv_sub hl [1, 2, 0] rfl) hf
      · have hf := (if_pos c4).symm.trans hf
        refine lv_goto (tgt := 127) hx hb dX12_goesOn_45 (by decide) ?_
        exact w_X12_goesOn_127 G B hz hc0 hr hlk ih h v0 v1 _ _ _ hw (lv_sub hl [0, 1] rfl) hf
set_option maxHeartbeats 4000000 in
theorem w_X12_goesOn_2 {p : Program} {l : Launch} {e : Env} {s : State} {m : MethodId} {args : Array Value} {below : List Frame} {meth : Method} {c : Code} {s0 : State} {E : Ev} {z : Sh} {n : Nat} {r : Int32} {h' : Hp} (G : Gl s0 E) (B : Bd p s0 s E m c cX12_goesOn 3 RX12) (hz : s0.heap.size ≤ z.sz) (hc0 : s.heap.size + 0 = z.sz) (hr : meth.sig.returnType = (some .int)) (hlk : meth.locks = false) : ∀ (i : Nat), ∀ (h : Hp) (v0 : Nat) (v1 : Int32) (H : Heap) (locs : List Loc) (ls : Array Slot), Pw s0 s E z h H locs → lv_has ls 3 [(0, .ref v0), (1, .int v1)] → f_X12_goesOn_2 n z i h v0 v1 = some (r, h') → W p l e (rmO 4 93) s m args below meth c H locs 0 0 (Zt below s0 E z h' (some (.int r)) args s 0 0) (F0 m 2 ls []) := by
  have hx := B.1
  have hb := B.2.1
  intro i
  induction i with
  | zero =>
    intro h v0 v1 H locs ls hw hl hf
    have hf := (f_X12_goesOn_2.eq_1 ..).symm.trans hf
    cases hf
  | succ i ih =>
    intro h v0 v1 H locs ls hw hl hf
    have hf := (f_X12_goesOn_2.eq_2 ..).symm.trans hf
    refine lv_iload_n hx hb dX12_goesOn_2 rfl (lv_at hl 1 rfl) ?_
    refine lv_sipush (v := 3430) hx hb dX12_goesOn_3 (by decide) ?_
    refine lv_icmp_ge (tgt := 24) hx hb dX12_goesOn_6 (by decide) (fun c1 => ?_) (fun c1 => ?_)
    · have hf := (if_pos c1).symm.trans hf
      refine lv_iconst (v := 0) hx hb dX12_goesOn_24 (by decide) ?_
      refine lv_istore_n (lv' := [(1, .int 0), (0, .ref v0)]) hx hb dX12_goesOn_25 rfl hl (by decide) rfl (fun ls hl => ?_)
      exact w_X12_goesOn_26 G B hz hc0 hr hlk  n h v0 0 _ _ _ hw (lv_sub hl [1, 0] rfl) hf
    · have hf := (if_neg c1).symm.trans hf
      refine lv_aload_n hx hb dX12_goesOn_9 rfl (lv_at hl 0 rfl) ?_
      obtain ⟨a2, e, hf⟩ := ob hf
      refine q_getR e B hw fd_12_28.1 fd_12_28.2.1 fd_12_28.2.2.1 fd_12_28.2.2.2.1 fd_12_28.2.2.2.2 rfl tw_6_71 dX12_goesOn_10 ?_
      refine lv_iload_n hx hb dX12_goesOn_13 rfl (lv_at hl 1 rfl) ?_
      refine lv_ldcw hx hb B.2.2.2.1 (B.w tw_8_38 rfl) dX12_goesOn_14 ?_
      obtain ⟨h3, e, hf⟩ := ob hf
      refine q_stI e B hw dX12_goesOn_17 (fun H locs hw => ?_)
      obtain ⟨x4, e, hf⟩ := ob hf
      refine lv_iinc (v := x4) (lv' := [(1, .int x4), (0, .ref v0)]) hx hb dX12_goesOn_18 hl (k := 1) rfl (Option.some.inj e) (by decide) rfl (fun ls hl => ?_)
      refine lv_goto (tgt := 2) hx hb dX12_goesOn_21 (by decide) ?_
      exact ih h3 v0 x4 _ _ _ hw (lv_sub hl [1, 0] rfl) hf
set_option maxHeartbeats 4000000 in
theorem c_X12_goesOn {l : Launch} {s0 : State} {E : Ev} (G : Gl s0 E) {n : Nat} {z : Sh} {h : Hp} {v0 : Nat} {r : Int32} {h' : Hp} (hf : f_X12_goesOn n z h v0 = some (r, h')) : Ct l s0 E yX12_goesOn cX12_goesOn 3 (some .int) 4 93 [.ref v0] z h h' (some (.int r)) := by
  refine Ct.of G (by decide) (Nat.le_of_ble_eq_true rfl) ?_
  intro p e s m below meth c ls B hw hz hc0 hr hlk hl
  have B : Bd p s0 s E m c cX12_goesOn 3 RX12 := B
  have hx := B.1
  have hb := B.2.1
  have hl : lv_has ls 3 [(0, .ref v0)] := hl
  unfold f_X12_goesOn at hf
  obtain ⟨_, hf⟩ := if_some hf
  refine lv_iconst (v := 0) hx hb dX12_goesOn_0 (by decide) ?_
  refine lv_istore_n (lv' := [(1, .int 0), (0, .ref v0)]) hx hb dX12_goesOn_1 rfl hl (by decide) rfl (fun ls hl => ?_)
  exact w_X12_goesOn_2 G B hz hc0 hr hlk  n h v0 0 _ _ _ hw (lv_sub hl [1, 0] rfl) hf
/-! SecondLifeModel.soonest(II)I -/
def f_X12_soonest_80 (n : Nat) (z : Sh) : Nat → Hp → Nat → Int32 → Int32 → Int32 → Option (Int32 × Hp)
  | 0, _, _, _, _, _ => none
  | i + 1, h, v0, v2, v3, v4 =>
    if v3 = (-268435456) then
      some (((-1) : Int32), h)
    else
      if v3 < v2 then
        (f_X12_goesOn n z h v0).bind fun (x3, h4) =>
        (some (v4 + 1)).bind fun x5 =>
        (f_X12_soonest_80 n z i) h4 v0 v2 x3 x5
      else
        some (v4, h)
def f_X12_soonest_60 (n : Nat) (z : Sh) (k24 : Hp → Nat → Int32 → Int32 → Int32 → Option (Int32 × Hp)) (h : Hp) (v0 : Nat) (v1 : Int32) (v2 : Int32) (v3 : Int32) (u0 : Int32) (u1 : Int32) (u2 : Nat) : Option (Int32 × Hp) :=
  (stI z h u2 u1 u0).bind fun h1 =>
  (some (v3 + 1)).bind fun x2 =>
  k24 h1 v0 v1 v2 x2
def f_X12_soonest_24 (n : Nat) (z : Sh) : Nat → Hp → Nat → Int32 → Int32 → Int32 → Option (Int32 × Hp)
  | 0, _, _, _, _, _ => none
  | i + 1, h, v0, v1, v2, v3 =>
    if 3430 ≤ v3 then
      (gR z h 12 v0 1).bind fun a2 =>
      (ldI z h a2 (30 + v1)).bind fun x3 =>
      f_X12_soonest_80 n z n h v0 v2 x3 0
    else
      (gR z h 12 v0 27).bind fun a4 =>
      (f_X12_standNow z h v0 v1).bind fun x5 =>
      if v3 = x5 then
        (gR z h 12 v0 1).bind fun a7 =>
        (ldI z h a7 (30 + v1)).bind fun x8 =>
        f_X12_soonest_60 n z (f_X12_soonest_24 n z i) h v0 v1 v2 v3 x8 v3 a4
      else
        f_X12_soonest_60 n z (f_X12_soonest_24 n z i) h v0 v1 v2 v3 (-268435456) v3 a4
def f_X12_soonest (n : Nat) (z : Sh) (h : Hp) (v0 : Nat) (v1 : Int32) (v2 : Int32) : Option (Int32 × Hp) :=
  if z.K v0 = 12 then
    (pI z h 12 v0 0 0).bind fun h1 =>
    (f_X12_isPerson z h1 v0 (Int32.toInt64 v1)).bind fun x2 =>
    if x2 = 0 then
      some (((-99000002) : Int32), h1)
    else
      (f_X12_begins n z h1 v0 v1).bind fun h4 =>
      f_X12_soonest_24 n z n h4 v0 v1 v2 0
  else none
theorem k_X12_soonest {n : Nat} {z : Sh} {h : Hp} {v0 : Nat} {v1 : Int32} {v2 : Int32} {w : Int32 × Hp} (hf : f_X12_soonest n z h v0 v1 v2 = some w) : z.K v0 = 12 := by
  unfold f_X12_soonest at hf
  exact (if_some hf).1
set_option maxHeartbeats 4000000 in
theorem w_X12_soonest_80 {p : Program} {l : Launch} {e : Env} {s : State} {m : MethodId} {args : Array Value} {below : List Frame} {meth : Method} {c : Code} {s0 : State} {E : Ev} {z : Sh} {n : Nat} {r : Int32} {h' : Hp} (G : Gl s0 E) (B : Bd p s0 s E m c cX12_soonest 5 RX12) (hz : s0.heap.size ≤ z.sz) (hc0 : s.heap.size + 0 = z.sz) (hr : meth.sig.returnType = (some .int)) (hlk : meth.locks = false) : ∀ (i : Nat), ∀ (h : Hp) (v0 : Nat) (v2 : Int32) (v3 : Int32) (v4 : Int32) (H : Heap) (locs : List Loc) (ls : Array Slot), Pw s0 s E z h H locs → lv_has ls 5 [(0, .ref v0), (2, .int v2), (3, .int v3), (4, .int v4)] → f_X12_soonest_80 n z i h v0 v2 v3 v4 = some (r, h') → W p l e (rmO 5 115) s m args below meth c H locs 0 0 (Zt below s0 E z h' (some (.int r)) args s 0 0) (F0 m 80 ls []) := by
  have hx := B.1
  have hb := B.2.1
  intro i
  induction i with
  | zero =>
    intro h v0 v2 v3 v4 H locs ls hw hl hf
    have hf := (f_X12_soonest_80.eq_1 ..).symm.trans hf
    cases hf
  | succ i ih =>
    intro h v0 v2 v3 v4 H locs ls hw hl hf
    have hf := (f_X12_soonest_80.eq_2 ..).symm.trans hf
    refine lv_iload_n hx hb dX12_soonest_80 rfl (lv_at hl 2 rfl) ?_
    refine lv_ldcw hx hb B.2.2.2.1 (B.w tw_8_38 rfl) dX12_soonest_81 ?_
    refine lv_icmp_eq (tgt := 106) hx hb dX12_soonest_84 (by decide) (fun c1 => ?_) (fun c1 => ?_)
    · have hf := (if_pos c1).symm.trans hf
      refine lv_iconst (v := (-1)) hx hb dX12_soonest_106 (by decide) ?_
      obtain ⟨rfl, rfl⟩ := so2 hf
      exact q_iret B hw hz hc0 hr hlk dX12_soonest_107
    · have hf := (if_neg c1).symm.trans hf
      refine lv_iload_n hx hb dX12_soonest_87 rfl (lv_at hl 2 rfl) ?_
      refine lv_iload_n hx hb dX12_soonest_88 rfl (lv_at hl 1 rfl) ?_
      refine lv_icmp_lt (tgt := 95) hx hb dX12_soonest_89 (by decide) (fun c2 => ?_) (fun c2 => ?_)
      · have hf := (if_pos c2).symm.trans hf
        refine lv_aload_n hx hb dX12_soonest_95 rfl (lv_at hl 0 rfl) ?_
        obtain ⟨⟨x3, h4⟩, e, hf⟩ := ob hf
        refine q_callV (As := []) (rest := []) (st1 := [.int x3]) (c_X12_goesOn G e) B hw hz hc0 (k_X12_goesOn e) (by decide) (ci := 12) rfl rfl my_X12_goesOn mv_X12_goesOn tw_8_39 ⟨Nat.le_of_ble_eq_true rfl, Nat.le_of_ble_eq_true rfl⟩ ⟨Nat.zero_le _, Nat.zero_le _⟩ rfl hl.1 rfl rfl (Nat.le_of_ble_eq_true rfl) dX12_soonest_96 (fun H locs hw => ?_)
        refine lv_istore_n (lv' := [(3, .int x3), (0, .ref v0), (2, .int v2), (4, .int v4)]) hx hb dX12_soonest_99 rfl hl (by decide) rfl (fun ls hl => ?_)
        obtain ⟨x5, e, hf⟩ := ob hf
        refine lv_iinc (v := x5) (lv' := [(4, .int x5), (3, .int x3), (0, .ref v0), (2, .int v2)]) hx hb dX12_soonest_100 hl (k := 3) rfl (Option.some.inj e) (by decide) rfl (fun ls hl => ?_)
        refine lv_goto (tgt := 80) hx hb dX12_soonest_103 (by decide) ?_
        exact ih h4 v0 v2 x3 x5 _ _ _ hw (lv_sub hl [2, 3, 1, 0] rfl) hf
      · have hf := (if_neg c2).symm.trans hf
        refine lv_iload hx hb dX12_soonest_92 (lv_at hl 3 rfl) ?_
        obtain ⟨rfl, rfl⟩ := so2 hf
        exact q_iret B hw hz hc0 hr hlk dX12_soonest_94
set_option maxHeartbeats 4000000 in
theorem w_X12_soonest_60 {p : Program} {l : Launch} {e : Env} {s : State} {m : MethodId} {args : Array Value} {below : List Frame} {meth : Method} {c : Code} {s0 : State} {E : Ev} {z : Sh} {n : Nat} {k24 : Hp → Nat → Int32 → Int32 → Int32 → Option (Int32 × Hp)} {r : Int32} {h' : Hp} (G : Gl s0 E) (B : Bd p s0 s E m c cX12_soonest 5 RX12) (hz : s0.heap.size ≤ z.sz) (hc0 : s.heap.size + 0 = z.sz) (hr : meth.sig.returnType = (some .int)) (hlk : meth.locks = false) (hk24 : ∀ (h : Hp) (v0 : Nat) (v1 : Int32) (v2 : Int32) (v3 : Int32) (H : Heap) (locs : List Loc) (ls : Array Slot), Pw s0 s E z h H locs → lv_has ls 5 [(0, .ref v0), (1, .int v1), (2, .int v2), (3, .int v3)] → k24 h v0 v1 v2 v3 = some (r, h') → W p l e (rmO 5 115) s m args below meth c H locs 0 0 (Zt below s0 E z h' (some (.int r)) args s 0 0) (F0 m 24 ls [])) : ∀ (h : Hp) (v0 : Nat) (v1 : Int32) (v2 : Int32) (v3 : Int32) (u0 : Int32) (u1 : Int32) (u2 : Nat) (H : Heap) (locs : List Loc) (ls : Array Slot), Pw s0 s E z h H locs → lv_has ls 5 [(0, .ref v0), (1, .int v1), (2, .int v2), (3, .int v3)] → f_X12_soonest_60 n z k24 h v0 v1 v2 v3 u0 u1 u2 = some (r, h') → W p l e (rmO 5 115) s m args below meth c H locs 0 0 (Zt below s0 E z h' (some (.int r)) args s 0 0) (F0 m 60 ls [.int u0, .int u1, .ref u2]) := by
  have hx := B.1
  have hb := B.2.1
  intro h v0 v1 v2 v3 u0 u1 u2 H locs ls hw hl hf
  unfold f_X12_soonest_60 at hf
  obtain ⟨h1, e, hf⟩ := ob hf
  refine q_stI e B hw dX12_soonest_60 (fun H locs hw => ?_)
  obtain ⟨x2, e, hf⟩ := ob hf
  refine lv_iinc (v := x2) (lv' := [(3, .int x2), (0, .ref v0), (1, .int v1), (2, .int v2)]) hx hb dX12_soonest_61 hl (k := 3) rfl (Option.some.inj e) (by decide) rfl (fun ls hl => ?_)
  refine lv_goto (tgt := 24) hx hb dX12_soonest_64 (by decide) ?_
  exact hk24 h1 v0 v1 v2 x2 _ _ _ hw (lv_sub hl [1, 2, 3, 0] rfl) hf
set_option maxHeartbeats 4000000 in
theorem w_X12_soonest_24 {p : Program} {l : Launch} {e : Env} {s : State} {m : MethodId} {args : Array Value} {below : List Frame} {meth : Method} {c : Code} {s0 : State} {E : Ev} {z : Sh} {n : Nat} {r : Int32} {h' : Hp} (G : Gl s0 E) (B : Bd p s0 s E m c cX12_soonest 5 RX12) (hz : s0.heap.size ≤ z.sz) (hc0 : s.heap.size + 0 = z.sz) (hr : meth.sig.returnType = (some .int)) (hlk : meth.locks = false) : ∀ (i : Nat), ∀ (h : Hp) (v0 : Nat) (v1 : Int32) (v2 : Int32) (v3 : Int32) (H : Heap) (locs : List Loc) (ls : Array Slot), Pw s0 s E z h H locs → lv_has ls 5 [(0, .ref v0), (1, .int v1), (2, .int v2), (3, .int v3)] → f_X12_soonest_24 n z i h v0 v1 v2 v3 = some (r, h') → W p l e (rmO 5 115) s m args below meth c H locs 0 0 (Zt below s0 E z h' (some (.int r)) args s 0 0) (F0 m 24 ls []) := by
  have hx := B.1
  have hb := B.2.1
  intro i
  induction i with
  | zero =>
    intro h v0 v1 v2 v3 H locs ls hw hl hf
    have hf := (f_X12_soonest_24.eq_1 ..).symm.trans hf
    cases hf
  | succ i ih =>
    intro h v0 v1 v2 v3 H locs ls hw hl hf
    have hf := (f_X12_soonest_24.eq_2 ..).symm.trans hf
    refine lv_iload_n hx hb dX12_soonest_24 rfl (lv_at hl 3 rfl) ?_
    refine lv_sipush (v := 3430) hx hb dX12_soonest_25 (by decide) ?_
    refine lv_icmp_ge (tgt := 67) hx hb dX12_soonest_28 (by decide) (fun c1 => ?_) (fun c1 => ?_)
    · have hf := (if_pos c1).symm.trans hf
      refine lv_aload_n hx hb dX12_soonest_67 rfl (lv_at hl 0 rfl) ?_
      obtain ⟨a2, e, hf⟩ := ob hf
      refine q_getR e B hw fd_12_1.1 fd_12_1.2.1 fd_12_1.2.2.1 fd_12_1.2.2.2.1 fd_12_1.2.2.2.2 rfl tw_6_44 dX12_soonest_68 ?_
      refine lv_bipush (v := 30) hx hb dX12_soonest_71 (by decide) ?_
      refine lv_iload_n hx hb dX12_soonest_73 rfl (lv_at hl 1 rfl) ?_
      refine lv_iadd hx hb dX12_soonest_74 ?_
      obtain ⟨x3, e, hf⟩ := ob hf
      refine q_ldI e B hw dX12_soonest_75 ?_
      refine lv_istore_n (lv' := [(3, .int x3), (0, .ref v0), (1, .int v1), (2, .int v2)]) hx hb dX12_soonest_76 rfl hl (by decide) rfl (fun ls hl => ?_)
      refine lv_iconst (v := 0) hx hb dX12_soonest_77 (by decide) ?_
      refine lv_istore (lv' := [(4, .int 0), (3, .int x3), (0, .ref v0), (1, .int v1), (2, .int v2)]) hx hb dX12_soonest_78 hl (by decide) rfl (fun ls hl => ?_)
      exact w_X12_soonest_80 G B hz hc0 hr hlk  n h v0 v2 x3 0 _ _ _ hw (lv_sub hl [2, 4, 1, 0] rfl) hf
    · have hf := (if_neg c1).symm.trans hf
      refine lv_aload_n hx hb dX12_soonest_31 rfl (lv_at hl 0 rfl) ?_
      obtain ⟨a4, e, hf⟩ := ob hf
      refine q_getR e B hw fd_12_27.1 fd_12_27.2.1 fd_12_27.2.2.1 fd_12_27.2.2.2.1 fd_12_27.2.2.2.2 rfl tw_6_70 dX12_soonest_32 ?_
      refine lv_iload_n hx hb dX12_soonest_35 rfl (lv_at hl 3 rfl) ?_
      refine lv_iload_n hx hb dX12_soonest_36 rfl (lv_at hl 3 rfl) ?_
      refine lv_aload_n hx hb dX12_soonest_37 rfl (lv_at hl 0 rfl) ?_
      refine lv_iload_n hx hb dX12_soonest_38 rfl (lv_at hl 1 rfl) ?_
      obtain ⟨x5, e, hf⟩ := ob hf
      refine q_callV (As := [.int v1]) (rest := [.int v3, .int v3, .ref a4]) (st1 := [.int x5, .int v3, .int v3, .ref a4]) (c_X12_standNow G e) B hw hz hc0 (k_X12_standNow e) (by decide) (ci := 12) rfl rfl my_X12_standNow mv_X12_standNow tw_7_48 ⟨Nat.le_of_ble_eq_true rfl, Nat.le_of_ble_eq_true rfl⟩ ⟨Nat.zero_le _, Nat.zero_le _⟩ rfl hl.1 rfl rfl (Nat.le_of_ble_eq_true rfl) dX12_soonest_39 (fun H locs hw => ?_)
      refine lv_icmp_ne (tgt := 57) hx hb dX12_soonest_42 (by decide) (fun c6 => ?_) (fun c6 => ?_)
      · have hf := (if_neg c6).symm.trans hf
        refine lv_ldcw hx hb B.2.2.2.1 (B.w tw_8_38 rfl) dX12_soonest_57 ?_
        exact w_X12_soonest_60 G B hz hc0 hr hlk ih h v0 v1 v2 v3 (-268435456) v3 a4 _ _ _ hw (lv_sub hl [0, 1, 2, 3] rfl) hf
      · have hf := (if_pos c6).symm.trans hf
        refine lv_aload_n hx hb dX12_soonest_45 rfl (lv_at hl 0 rfl) ?_
        obtain ⟨a7, e, hf⟩ := ob hf
        refine q_getR e B hw fd_12_1.1 fd_12_1.2.1 fd_12_1.2.2.1 fd_12_1.2.2.2.1 fd_12_1.2.2.2.2 rfl tw_6_44 dX12_soonest_46 ?_
        refine lv_bipush (v := 30) hx hb dX12_soonest_49 (by decide) ?_
        refine lv_iload_n hx hb dX12_soonest_51 rfl (lv_at hl 1 rfl) ?_
        refine lv_iadd hx hb dX12_soonest_52 ?_
        obtain ⟨x8, e, hf⟩ := ob hf
        refine q_ldI e B hw dX12_soonest_53 ?_
        refine lv_goto (tgt := 60) hx hb dX12_soonest_54 (by decide) ?_
        exact w_X12_soonest_60 G B hz hc0 hr hlk ih h v0 v1 v2 v3 x8 v3 a4 _ _ _ hw (lv_sub hl [0, 1, 2, 3] rfl) hf
set_option maxHeartbeats 4000000 in
theorem c_X12_soonest {l : Launch} {s0 : State} {E : Ev} (G : Gl s0 E) {n : Nat} {z : Sh} {h : Hp} {v0 : Nat} {v1 : Int32} {v2 : Int32} {r : Int32} {h' : Hp} (hf : f_X12_soonest n z h v0 v1 v2 = some (r, h')) : Ct l s0 E yX12_soonest cX12_soonest 5 (some .int) 5 115 [.ref v0, .int v1, .int v2] z h h' (some (.int r)) := by
  refine Ct.of G (by decide) (Nat.le_of_ble_eq_true rfl) ?_
  intro p e s m below meth c ls B hw hz hc0 hr hlk hl
  have B : Bd p s0 s E m c cX12_soonest 5 RX12 := B
  have hx := B.1
  have hb := B.2.1
  have hl : lv_has ls 5 [(0, .ref v0), (1, .int v1), (2, .int v2)] := hl
  unfold f_X12_soonest at hf
  obtain ⟨_, hf⟩ := if_some hf
  refine lv_aload_n hx hb dX12_soonest_0 rfl (lv_at hl 0 rfl) ?_
  refine lv_iconst (v := 0) hx hb dX12_soonest_1 (by decide) ?_
  obtain ⟨h1, e, hf⟩ := ob hf
  refine q_putI e B hw fd_12_0.1 fd_12_0.2.1 fd_12_0.2.2.1 fd_12_0.2.2.2.1 fd_12_0.2.2.2.2 rfl rfl (tyX12_ok 0 (by decide)) tyX12 tyX12_ok nmX12 tw_6_43 dX12_soonest_2 (fun H locs hw => ?_)
  refine lv_aload_n hx hb dX12_soonest_5 rfl (lv_at hl 0 rfl) ?_
  refine lv_iload_n hx hb dX12_soonest_6 rfl (lv_at hl 1 rfl) ?_
  refine lv_i2l (v := (Int32.toInt64 v1)) hx hb dX12_soonest_7 rfl ?_
  obtain ⟨x2, e, hf⟩ := ob hf
  refine q_callV (As := [.long (Int32.toInt64 v1)]) (rest := []) (st1 := [.int x2]) (c_X12_isPerson G e) B hw hz hc0 (k_X12_isPerson e) (by decide) (ci := 12) rfl rfl my_X12_isPerson mv_X12_isPerson tw_7_35 ⟨Nat.le_of_ble_eq_true rfl, Nat.le_of_ble_eq_true rfl⟩ ⟨Nat.zero_le _, Nat.zero_le _⟩ rfl hl.1 rfl rfl (Nat.le_of_ble_eq_true rfl) dX12_soonest_8 (fun H locs hw => ?_)
  refine lv_if_ne (tgt := 17) hx hb dX12_soonest_11 (by decide) (fun c3 => ?_) (fun c3 => ?_)
  · have hf := (if_neg c3).symm.trans hf
    refine lv_aload_n hx hb dX12_soonest_17 rfl (lv_at hl 0 rfl) ?_
    refine lv_iload_n hx hb dX12_soonest_18 rfl (lv_at hl 1 rfl) ?_
    obtain ⟨h4, e, hf⟩ := ob hf
    refine q_callV (As := [.int v1]) (rest := []) (st1 := []) (c_X12_begins G e) B hw hz hc0 (k_X12_begins e) (by decide) (ci := 12) rfl rfl my_X12_begins mv_X12_begins tw_7_233 ⟨Nat.le_of_ble_eq_true rfl, Nat.le_of_ble_eq_true rfl⟩ ⟨Nat.zero_le _, Nat.zero_le _⟩ rfl hl.1 rfl rfl (Nat.le_of_ble_eq_true rfl) dX12_soonest_19 (fun H locs hw => ?_)
    refine lv_iconst (v := 0) hx hb dX12_soonest_22 (by decide) ?_
    refine lv_istore_n (lv' := [(3, .int 0), (0, .ref v0), (1, .int v1), (2, .int v2)]) hx hb dX12_soonest_23 rfl hl (by decide) rfl (fun ls hl => ?_)
    exact w_X12_soonest_24 G B hz hc0 hr hlk  n h4 v0 v1 v2 0 _ _ _ hw (lv_sub hl [1, 2, 3, 0] rfl) hf
  · have hf := (if_pos c3).symm.trans hf
    refine lv_ldc hx hb B.2.2.2.1 (B.w tw_7_39 rfl) dX12_soonest_14 ?_
    obtain ⟨rfl, rfl⟩ := so2 hf
    exact q_iret B hw hz hc0 hr hlk dX12_soonest_16
