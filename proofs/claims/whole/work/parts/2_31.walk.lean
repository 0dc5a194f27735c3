/-! SecondLifeModel.town(I)I -/
def f_X12_town_187 (n : Nat) (z : Sh) : Nat → Hp → Nat → Int32 → Option (Int32 × Hp)
  | 0, _, _, _ => none
  | i + 1, h, v0, v2 =>
    if 1458 ≤ v2 then
      (gR z h 12 v0 1).bind fun a2 =>
      (ldI z h a2 0).bind fun x3 =>
      some (x3, h)
    else
      (gR z h 12 v0 1).bind fun a4 =>
      (gR z h 12 v0 4).bind fun a5 =>
      (ldI z h a5 v2).bind fun x6 =>
      (stI z h a4 v2 x6).bind fun h7 =>
      (some (v2 + 1)).bind fun x8 =>
      (f_X12_town_187 n z i) h7 v0 x8
def f_X12_town_167 (n : Nat) (z : Sh) (h : Hp) (v0 : Nat) (u0 : Int32) (u1 : Nat) : Option (Int32 × Hp) :=
  (pI z h 12 u1 14 u0).bind fun h1 =>
  (gI z h1 12 v0 11).bind fun x2 =>
  if x2 = 0 then
    f_X12_town_187 n z n h1 v0 0
  else
    (gI z h1 12 v0 11).bind fun x4 =>
    some (((-99000030) - x4), h1)
def f_X12_town_143 (n : Nat) (z : Sh) (h : Hp) (v0 : Nat) : Option (Int32 × Hp) :=
  (gI z h 12 v0 11).bind fun x1 =>
  (pI z h 12 v0 13 x1).bind fun h2 =>
  (gI z h2 12 v0 11).bind fun x3 =>
  if x3 = 0 then
    f_X12_town_167 n z h2 v0 (-1) v0
  else
    (gI z h2 12 v0 12).bind fun x5 =>
    f_X12_town_167 n z h2 v0 x5 v0
def f_X12_town_116 (n : Nat) (z : Sh) : Nat → Hp → Nat → Option (Int32 × Hp)
  | 0, _, _ => none
  | i + 1, h, v0 =>
    (gI z h 12 v0 11).bind fun x1 =>
    if x1 = 0 then
      (gI z h 12 v0 9).bind fun x3 =>
      if x3 = 25 then
        f_X12_town_143 n z h v0
      else
        (f_X12_readLine n z h v0).bind fun h5 =>
        (f_X12_ends n z h5 v0).bind fun h6 =>
        (f_X12_town_116 n z i) h6 v0
    else
      f_X12_town_143 n z h v0
def f_X12_town_100 (n : Nat) (z : Sh) (h : Hp) (v0 : Nat) : Option (Int32 × Hp) :=
  (gR z h 12 v0 4).bind fun a1 =>
  (f_X12_takes n z h v0 1 4).bind fun (x2, h3) =>
  (stI z h3 a1 2 x2).bind fun h4 =>
  (f_X12_ends n z h4 v0).bind fun h5 =>
  f_X12_town_116 n z n h5 v0
def f_X12_town_74 (n : Nat) (z : Sh) (h : Hp) (v0 : Nat) : Option (Int32 × Hp) :=
  (gR z h 12 v0 4).bind fun a1 =>
  (f_X12_takes n z h v0 1 6).bind fun (x2, h3) =>
  (stI z h3 a1 1 x2).bind fun h4 =>
  (f_X12_eats n z h4 v0 2).bind fun (x5, h6) =>
  if x5 = 0 then
    (f_X12_fails z h6 v0 2).bind fun h8 =>
    f_X12_town_100 n z h8 v0
  else
    f_X12_town_100 n z h6 v0
def f_X12_town_69 (n : Nat) (z : Sh) (h : Hp) (v0 : Nat) : Option (Int32 × Hp) :=
  (f_X12_fails z h v0 2).bind fun h1 =>
  f_X12_town_74 n z h1 v0
def f_X12_town (n : Nat) (z : Sh) (h : Hp) (v0 : Nat) (v1 : Int32) : Option (Int32 × Hp) :=
  if z.K v0 = 12 then
    (pI z h 12 v0 0 0).bind fun h1 =>
    (gI z h1 12 v0 5).bind fun x2 =>
    (f_X12_within z h1 (Int32.toInt64 v1) 0 (Int32.toInt64 x2)).bind fun x3 =>
    if x3 = 0 then
      some (((-99000003) : Int32), h1)
    else
      (pI z h1 12 v0 8 v1).bind fun h5 =>
      (pI z h5 12 v0 5 0).bind fun h6 =>
      (pI z h6 12 v0 7 0).bind fun h7 =>
      (pI z h7 12 v0 11 0).bind fun h8 =>
      (gR z h8 12 v0 4).bind fun a9 =>
      (f_X12_plain n z h8 a9).bind fun h10 =>
      (f_X12_next n z h10 v0).bind fun h11 =>
      (f_X12_eats n z h11 v0 0).bind fun (x12, h13) =>
      if x12 = 0 then
        f_X12_town_69 n z h13 v0
      else
        (f_X12_eats n z h13 v0 1).bind fun (x15, h16) =>
        if x15 = 0 then
          f_X12_town_69 n z h16 v0
        else
          f_X12_town_74 n z h16 v0
  else none
theorem k_X12_town {n : Nat} {z : Sh} {h : Hp} {v0 : Nat} {v1 : Int32} {w : Int32 × Hp} (hf : f_X12_town n z h v0 v1 = some w) : z.K v0 = 12 := by
  unfold f_X12_town at hf
  exact (if_some hf).1
set_option maxHeartbeats 4000000 in
theorem w_X12_town_187 {p : Program} {l : Launch} {e : Env} {s : State} {m : MethodId} {args : Array Value} {below : List Frame} {meth : Method} {c : Code} {s0 : State} {E : Ev} {z : Sh} {n : Nat} {r : Int32} {h' : Hp} (G : Gl s0 E) (B : Bd p s0 s E m c cX12_town 3 RX12) (hz : s0.heap.size ≤ z.sz) (hc0 : s.heap.size + 0 = z.sz) (hr : meth.sig.returnType = (some .int)) (hlk : meth.locks = false) : ∀ (i : Nat), ∀ (h : Hp) (v0 : Nat) (v2 : Int32) (H : Heap) (locs : List Loc) (ls : Array Slot), Pw s0 s E z h H locs → lv_has ls 3 [(0, .ref v0), (2, .int v2)] → f_X12_town_187 n z i h v0 v2 = some (r, h') → W p l e (rmO 71 3815) s m args below meth c H locs 0 0 (Zt below s0 E z h' (some (.int r)) args s 0 0) (F0 m 187 ls []) := by
  have hx := B.1
  have hb := B.2.1
  intro i
  induction i with
  | zero =>
    intro h v0 v2 H locs ls hw hl hf
    have hf := (f_X12_town_187.eq_1 ..).symm.trans hf
    cases hf
  | succ i ih =>
    intro h v0 v2 H locs ls hw hl hf
    have hf := (f_X12_town_187.eq_2 ..).symm.trans hf
    refine lv_iload_n hx hb dX12_town_187 rfl (lv_at hl 1 rfl) ?_
    refine lv_sipush (v := 1458) hx hb dX12_town_188 (by decide) ?_
    refine lv_icmp_ge (tgt := 212) hx hb dX12_town_191 (by decide) (fun c1 => ?_) (fun c1 => ?_)
    · have hf := (if_pos c1).symm.trans hf
      refine lv_aload_n hx hb dX12_town_212 rfl (lv_at hl 0 rfl) ?_
      obtain ⟨a2, e, hf⟩ := ob hf
      refine q_getR e B hw fd_12_1.1 fd_12_1.2.1 fd_12_1.2.2.1 fd_12_1.2.2.2.1 fd_12_1.2.2.2.2 rfl tw_6_44 dX12_town_213 ?_
      refine lv_iconst (v := 0) hx hb dX12_town_216 (by decide) ?_
      obtain ⟨x3, e, hf⟩ := ob hf
      refine q_ldI e B hw dX12_town_217 ?_
      obtain ⟨rfl, rfl⟩ := so2 hf
      exact q_iret B hw hz hc0 hr hlk dX12_town_218
    · have hf := (if_neg c1).symm.trans hf
      refine lv_aload_n hx hb dX12_town_194 rfl (lv_at hl 0 rfl) ?_
      obtain ⟨a4, e, hf⟩ := ob hf
      refine q_getR e B hw fd_12_1.1 fd_12_1.2.1 fd_12_1.2.2.1 fd_12_1.2.2.2.1 fd_12_1.2.2.2.2 rfl tw_6_44 dX12_town_195 ?_
      refine lv_iload_n hx hb dX12_town_198 rfl (lv_at hl 1 rfl) ?_
      refine lv_aload_n hx hb dX12_town_199 rfl (lv_at hl 0 rfl) ?_
      obtain ⟨a5, e, hf⟩ := ob hf
      refine q_getR e B hw fd_12_4.1 fd_12_4.2.1 fd_12_4.2.2.1 fd_12_4.2.2.2.1 fd_12_4.2.2.2.2 rfl tw_6_47 dX12_town_200 ?_
      refine lv_iload_n hx hb dX12_town_203 rfl (lv_at hl 1 rfl) ?_
      obtain ⟨x6, e, hf⟩ := ob hf
      refine q_ldI e B hw dX12_town_204 ?_
      obtain ⟨h7, e, hf⟩ := ob hf
      refine q_stI e B hw dX12_town_205 (fun H locs hw => ?_)
      obtain ⟨x8, e, hf⟩ := ob hf
      refine lv_iinc (v := x8) (lv' := [(2, .int x8), (0, .ref v0)]) hx hb dX12_town_206 hl (k := 1) rfl (Option.some.inj e) (by decide) rfl (fun ls hl => ?_)
      refine lv_goto (tgt := 187) hx hb dX12_town_209 (by decide) ?_
      exact ih h7 v0 x8 _ _ _ hw (lv_sub hl [1, 0] rfl) hf
set_option maxHeartbeats 4000000 in
theorem w_X12_town_167 {p : Program} {l : Launch} {e : Env} {s : State} {m : MethodId} {args : Array Value} {below : List Frame} {meth : Method} {c : Code} {s0 : State} {E : Ev} {z : Sh} {n : Nat} {r : Int32} {h' : Hp} (G : Gl s0 E) (B : Bd p s0 s E m c cX12_town 3 RX12) (hz : s0.heap.size ≤ z.sz) (hc0 : s.heap.size + 0 = z.sz) (hr : meth.sig.returnType = (some .int)) (hlk : meth.locks = false) : ∀ (h : Hp) (v0 : Nat) (u0 : Int32) (u1 : Nat) (H : Heap) (locs : List Loc) (ls : Array Slot), Pw s0 s E z h H locs → lv_has ls 3 [(0, .ref v0)] → f_X12_town_167 n z h v0 u0 u1 = some (r, h') → W p l e (rmO 71 3815) s m args below meth c H locs 0 0 (Zt below s0 E z h' (some (.int r)) args s 0 0) (F0 m 167 ls [.int u0, .ref u1]) := by
  have hx := B.1
  have hb := B.2.1
  intro h v0 u0 u1 H locs ls hw hl hf
  unfold f_X12_town_167 at hf
  obtain ⟨h1, e, hf⟩ := ob hf
  refine q_putI e B hw fd_12_14.1 fd_12_14.2.1 fd_12_14.2.2.1 fd_12_14.2.2.2.1 fd_12_14.2.2.2.2 rfl rfl (tyX12_ok 14 (by decide)) tyX12 tyX12_ok nmX12 tw_6_57 dX12_town_167 (fun H locs hw => ?_)
  refine lv_aload_n hx hb dX12_town_170 rfl (lv_at hl 0 rfl) ?_
  obtain ⟨x2, e, hf⟩ := ob hf
  refine q_getI e B hw fd_12_11.1 fd_12_11.2.1 fd_12_11.2.2.1 fd_12_11.2.2.2.1 fd_12_11.2.2.2.2 rfl tw_6_54 dX12_town_171 ?_
  refine lv_if_eq (tgt := 185) hx hb dX12_town_174 (by decide) (fun c3 => ?_) (fun c3 => ?_)
  · have hf := (if_pos c3).symm.trans hf
    refine lv_iconst (v := 0) hx hb dX12_town_185 (by decide) ?_
    refine lv_istore_n (lv' := [(2, .int 0), (0, .ref v0)]) hx hb dX12_town_186 rfl hl (by decide) rfl (fun ls hl => ?_)
    exact w_X12_town_187 G B hz hc0 hr hlk  n h1 v0 0 _ _ _ hw (lv_sub hl [1, 0] rfl) hf
  · have hf := (if_neg c3).symm.trans hf
    refine lv_ldc hx hb B.2.2.2.1 (B.w tw_7_26 rfl) dX12_town_177 ?_
    refine lv_aload_n hx hb dX12_town_179 rfl (lv_at hl 0 rfl) ?_
    obtain ⟨x4, e, hf⟩ := ob hf
    refine q_getI e B hw fd_12_11.1 fd_12_11.2.1 fd_12_11.2.2.1 fd_12_11.2.2.2.1 fd_12_11.2.2.2.2 rfl tw_6_54 dX12_town_180 ?_
    refine lv_isub hx hb dX12_town_183 ?_
    obtain ⟨rfl, rfl⟩ := so2 hf
    exact q_iret B hw hz hc0 hr hlk dX12_town_184
set_option maxHeartbeats 4000000 in
theorem w_X12_town_143 {p : Program} {l : Launch} {e : Env} {s : State} {m : MethodId} {args : Array Value} {below : List Frame} {meth : Method} {c : Code} {s0 : State} {E : Ev} {z : Sh} {n : Nat} {r : Int32} {h' : Hp} (G : Gl s0 E) (B : Bd p s0 s E m c cX12_town 3 RX12) (hz : s0.heap.size ≤ z.sz) (hc0 : s.heap.size + 0 = z.sz) (hr : meth.sig.returnType = (some .int)) (hlk : meth.locks = false) : ∀ (h : Hp) (v0 : Nat) (H : Heap) (locs : List Loc) (ls : Array Slot), Pw s0 s E z h H locs → lv_has ls 3 [(0, .ref v0)] → f_X12_town_143 n z h v0 = some (r, h') → W p l e (rmO 71 3815) s m args below meth c H locs 0 0 (Zt below s0 E z h' (some (.int r)) args s 0 0) (F0 m 143 ls []) := by
  have hx := B.1
  have hb := B.2.1
  intro h v0 H locs ls hw hl hf
  unfold f_X12_town_143 at hf
  refine lv_aload_n hx hb dX12_town_143 rfl (lv_at hl 0 rfl) ?_
  refine lv_aload_n hx hb dX12_town_144 rfl (lv_at hl 0 rfl) ?_
  obtain ⟨x1, e, hf⟩ := ob hf
  refine q_getI e B hw fd_12_11.1 fd_12_11.2.1 fd_12_11.2.2.1 fd_12_11.2.2.2.1 fd_12_11.2.2.2.2 rfl tw_6_54 dX12_town_145 ?_
  obtain ⟨h2, e, hf⟩ := ob hf
  refine q_putI e B hw fd_12_13.1 fd_12_13.2.1 fd_12_13.2.2.1 fd_12_13.2.2.2.1 fd_12_13.2.2.2.2 rfl rfl (tyX12_ok 13 (by decide)) tyX12 tyX12_ok nmX12 tw_6_56 dX12_town_148 (fun H locs hw => ?_)
  refine lv_aload_n hx hb dX12_town_151 rfl (lv_at hl 0 rfl) ?_
  refine lv_aload_n hx hb dX12_town_152 rfl (lv_at hl 0 rfl) ?_
  obtain ⟨x3, e, hf⟩ := ob hf
  refine q_getI e B hw fd_12_11.1 fd_12_11.2.1 fd_12_11.2.2.1 fd_12_11.2.2.2.1 fd_12_11.2.2.2.2 rfl tw_6_54 dX12_town_153 ?_
  refine lv_if_ne (tgt := 163) hx hb dX12_town_156 (by decide) (fun c4 => ?_) (fun c4 => ?_)
  · have hf := (if_neg c4).symm.trans hf
    refine lv_aload_n hx hb dX12_town_163 rfl (lv_at hl 0 rfl) ?_
    obtain ⟨x5, e, hf⟩ := ob hf
    refine q_getI e B hw fd_12_12.1 fd_12_12.2.1 fd_12_12.2.2.1 fd_12_12.2.2.2.1 fd_12_12.2.2.2.2 rfl tw_6_55 dX12_town_164 ?_
    exact w_X12_town_167 G B hz hc0 hr hlk  h2 v0 x5 v0 _ _ _ hw (lv_sub hl [0] rfl) hf
  · have hf := (if_pos c4).symm.trans hf
    refine lv_iconst (v := (-1)) hx hb dX12_town_159 (by decide) ?_
    refine lv_goto (tgt := 167) hx hb dX12_town_160 (by decide) ?_
    exact w_X12_town_167 G B hz hc0 hr hlk  h2 v0 (-1) v0 _ _ _ hw (lv_sub hl [0] rfl) hf
set_option maxHeartbeats 4000000 in
theorem w_X12_town_116 {p : Program} {l : Launch} {e : Env} {s : State} {m : MethodId} {args : Array Value} {below : List Frame} {meth : Method} {c : Code} {s0 : State} {E : Ev} {z : Sh} {n : Nat} {r : Int32} {h' : Hp} (G : Gl s0 E) (B : Bd p s0 s E m c cX12_town 3 RX12) (hz : s0.heap.size ≤ z.sz) (hc0 : s.heap.size + 0 = z.sz) (hr : meth.sig.returnType = (some .int)) (hlk : meth.locks = false) : ∀ (i : Nat), ∀ (h : Hp) (v0 : Nat) (H : Heap) (locs : List Loc) (ls : Array Slot), Pw s0 s E z h H locs → lv_has ls 3 [(0, .ref v0)] → f_X12_town_116 n z i h v0 = some (r, h') → W p l e (rmO 71 3815) s m args below meth c H locs 0 0 (Zt below s0 E z h' (some (.int r)) args s 0 0) (F0 m 116 ls []) := by
  have hx := B.1
  have hb := B.2.1
  intro i
  induction i with
  | zero =>
    intro h v0 H locs ls hw hl hf
    have hf := (f_X12_town_116.eq_1 ..).symm.trans hf
    cases hf
  | succ i ih =>
    intro h v0 H locs ls hw hl hf
    have hf := (f_X12_town_116.eq_2 ..).symm.trans hf
    refine lv_aload_n hx hb dX12_town_116 rfl (lv_at hl 0 rfl) ?_
    obtain ⟨x1, e, hf⟩ := ob hf
    refine q_getI e B hw fd_12_11.1 fd_12_11.2.1 fd_12_11.2.2.1 fd_12_11.2.2.2.1 fd_12_11.2.2.2.2 rfl tw_6_54 dX12_town_117 ?_
    refine lv_if_ne (tgt := 143) hx hb dX12_town_120 (by decide) (fun c2 => ?_) (fun c2 => ?_)
    · have hf := (if_neg c2).symm.trans hf
      exact w_X12_town_143 G B hz hc0 hr hlk  h v0 _ _ _ hw (lv_sub hl [0] rfl) hf
    · have hf := (if_pos c2).symm.trans hf
      refine lv_aload_n hx hb dX12_town_123 rfl (lv_at hl 0 rfl) ?_
      obtain ⟨x3, e, hf⟩ := ob hf
      refine q_getI e B hw fd_12_9.1 fd_12_9.2.1 fd_12_9.2.2.1 fd_12_9.2.2.2.1 fd_12_9.2.2.2.2 rfl tw_6_52 dX12_town_124 ?_
      refine lv_bipush (v := 25) hx hb dX12_town_127 (by decide) ?_
      refine lv_icmp_eq (tgt := 143) hx hb dX12_town_129 (by decide) (fun c4 => ?_) (fun c4 => ?_)
      · have hf := (if_pos c4).symm.trans hf
        exact w_X12_town_143 G B hz hc0 hr hlk  h v0 _ _ _ hw (lv_sub hl [0] rfl) hf
      · have hf := (if_neg c4).symm.trans hf
        refine lv_aload_n hx hb dX12_town_132 rfl (lv_at hl 0 rfl) ?_
        obtain ⟨h5, e, hf⟩ := ob hf
        refine q_callV (As := []) (rest := []) (st1 := []) (c_X12_readLine G e) B hw hz hc0 (k_X12_readLine e) (by decide) (ci := 12) rfl rfl my_X12_readLine mv_X12_readLine tw_6_208 ⟨Nat.le_of_ble_eq_true rfl, Nat.le_of_ble_eq_true rfl⟩ ⟨Nat.zero_le _, Nat.zero_le _⟩ rfl hl.1 rfl rfl (Nat.le_of_ble_eq_true rfl) dX12_town_133 (fun H locs hw => ?_)
        refine lv_aload_n hx hb dX12_town_136 rfl (lv_at hl 0 rfl) ?_
        obtain ⟨h6, e, hf⟩ := ob hf
        refine q_callV (As := []) (rest := []) (st1 := []) (c_X12_ends G e) B hw hz hc0 (k_X12_ends e) (by decide) (ci := 12) rfl rfl my_X12_ends mv_X12_ends tw_6_204 ⟨Nat.le_of_ble_eq_true rfl, Nat.le_of_ble_eq_true rfl⟩ ⟨Nat.zero_le _, Nat.zero_le _⟩ rfl hl.1 rfl rfl (Nat.le_of_ble_eq_true rfl) dX12_town_137 (fun H locs hw => ?_)
        refine lv_goto (tgt := 116) hx hb dX12_town_140 (by decide) ?_
        exact ih h6 v0 _ _ _ hw (lv_sub hl [0] rfl) hf
set_option maxHeartbeats 4000000 in
theorem w_X12_town_100 {p : Program} {l : Launch} {e : Env} {s : State} {m : MethodId} {args : Array Value} {below : List Frame} {meth : Method} {c : Code} {s0 : State} {E : Ev} {z : Sh} {n : Nat} {r : Int32} {h' : Hp} (G : Gl s0 E) (B : Bd p s0 s E m c cX12_town 3 RX12) (hz : s0.heap.size ≤ z.sz) (hc0 : s.heap.size + 0 = z.sz) (hr : meth.sig.returnType = (some .int)) (hlk : meth.locks = false) : ∀ (h : Hp) (v0 : Nat) (H : Heap) (locs : List Loc) (ls : Array Slot), Pw s0 s E z h H locs → lv_has ls 3 [(0, .ref v0)] → f_X12_town_100 n z h v0 = some (r, h') → W p l e (rmO 71 3815) s m args below meth c H locs 0 0 (Zt below s0 E z h' (some (.int r)) args s 0 0) (F0 m 100 ls []) := by
  have hx := B.1
  have hb := B.2.1
  intro h v0 H locs ls hw hl hf
  unfold f_X12_town_100 at hf
  refine lv_aload_n hx hb dX12_town_100 rfl (lv_at hl 0 rfl) ?_
  obtain ⟨a1, e, hf⟩ := ob hf
  refine q_getR e B hw fd_12_4.1 fd_12_4.2.1 fd_12_4.2.2.1 fd_12_4.2.2.2.1 fd_12_4.2.2.2.2 rfl tw_6_47 dX12_town_101 ?_
  refine lv_iconst (v := 2) hx hb dX12_town_104 (by decide) ?_
  refine lv_aload_n hx hb dX12_town_105 rfl (lv_at hl 0 rfl) ?_
  refine lv_iconst (v := 1) hx hb dX12_town_106 (by decide) ?_
  refine lv_iconst (v := 4) hx hb dX12_town_107 (by decide) ?_
  obtain ⟨⟨x2, h3⟩, e, hf⟩ := ob hf
  refine q_callV (As := [.int 1, .int 4]) (rest := [.int 2, .ref a1]) (st1 := [.int x2, .int 2, .ref a1]) (c_X12_takes G e) B hw hz hc0 (k_X12_takes e) (by decide) (ci := 12) rfl rfl my_X12_takes mv_X12_takes tw_6_200 ⟨Nat.le_of_ble_eq_true rfl, Nat.le_of_ble_eq_true rfl⟩ ⟨Nat.zero_le _, Nat.zero_le _⟩ rfl hl.1 rfl rfl (Nat.le_of_ble_eq_true rfl) dX12_town_108 (fun H locs hw => ?_)
  obtain ⟨h4, e, hf⟩ := ob hf
  refine q_stI e B hw dX12_town_111 (fun H locs hw => ?_)
  refine lv_aload_n hx hb dX12_town_112 rfl (lv_at hl 0 rfl) ?_
  obtain ⟨h5, e, hf⟩ := ob hf
  refine q_callV (As := []) (rest := []) (st1 := []) (c_X12_ends G e) B hw hz hc0 (k_X12_ends e) (by decide) (ci := 12) rfl rfl my_X12_ends mv_X12_ends tw_6_204 ⟨Nat.le_of_ble_eq_true rfl, Nat.le_of_ble_eq_true rfl⟩ ⟨Nat.zero_le _, Nat.zero_le _⟩ rfl hl.1 rfl rfl (Nat.le_of_ble_eq_true rfl) dX12_town_113 (fun H locs hw => ?_)
  exact w_X12_town_116 G B hz hc0 hr hlk  n h5 v0 _ _ _ hw (lv_sub hl [0] rfl) hf
set_option maxHeartbeats 4000000 in
theorem w_X12_town_74 {p : Program} {l : Launch} {e : Env} {s : State} {m : MethodId} {args : Array Value} {below : List Frame} {meth : Method} {c : Code} {s0 : State} {E : Ev} {z : Sh} {n : Nat} {r : Int32} {h' : Hp} (G : Gl s0 E) (B : Bd p s0 s E m c cX12_town 3 RX12) (hz : s0.heap.size ≤ z.sz) (hc0 : s.heap.size + 0 = z.sz) (hr : meth.sig.returnType = (some .int)) (hlk : meth.locks = false) : ∀ (h : Hp) (v0 : Nat) (H : Heap) (locs : List Loc) (ls : Array Slot), Pw s0 s E z h H locs → lv_has ls 3 [(0, .ref v0)] → f_X12_town_74 n z h v0 = some (r, h') → W p l e (rmO 71 3815) s m args below meth c H locs 0 0 (Zt below s0 E z h' (some (.int r)) args s 0 0) (F0 m 74 ls []) := by
  have hx := B.1
  have hb := B.2.1
  intro h v0 H locs ls hw hl hf
  unfold f_X12_town_74 at hf
  refine lv_aload_n hx hb dX12_town_74 rfl (lv_at hl 0 rfl) ?_
  obtain ⟨a1, e, hf⟩ := ob hf
  refine q_getR e B hw fd_12_4.1 fd_12_4.2.1 fd_12_4.2.2.1 fd_12_4.2.2.2.1 fd_12_4.2.2.2.2 rfl tw_6_47 dX12_town_75 ?_
  refine lv_iconst (v := 1) hx hb dX12_town_78 (by decide) ?_
  refine lv_aload_n hx hb dX12_town_79 rfl (lv_at hl 0 rfl) ?_
  refine lv_iconst (v := 1) hx hb dX12_town_80 (by decide) ?_
  refine lv_bipush (v := 6) hx hb dX12_town_81 (by decide) ?_
  obtain ⟨⟨x2, h3⟩, e, hf⟩ := ob hf
  refine q_callV (As := [.int 1, .int 6]) (rest := [.int 1, .ref a1]) (st1 := [.int x2, .int 1, .ref a1]) (c_X12_takes G e) B hw hz hc0 (k_X12_takes e) (by decide) (ci := 12) rfl rfl my_X12_takes mv_X12_takes tw_6_200 ⟨Nat.le_of_ble_eq_true rfl, Nat.le_of_ble_eq_true rfl⟩ ⟨Nat.zero_le _, Nat.zero_le _⟩ rfl hl.1 rfl rfl (Nat.le_of_ble_eq_true rfl) dX12_town_83 (fun H locs hw => ?_)
  obtain ⟨h4, e, hf⟩ := ob hf
  refine q_stI e B hw dX12_town_86 (fun H locs hw => ?_)
  refine lv_aload_n hx hb dX12_town_87 rfl (lv_at hl 0 rfl) ?_
  refine lv_iconst (v := 2) hx hb dX12_town_88 (by decide) ?_
  obtain ⟨⟨x5, h6⟩, e, hf⟩ := ob hf
  refine q_callV (As := [.int 2]) (rest := []) (st1 := [.int x5]) (c_X12_eats G e) B hw hz hc0 (k_X12_eats e) (by decide) (ci := 12) rfl rfl my_X12_eats mv_X12_eats tw_6_188 ⟨Nat.le_of_ble_eq_true rfl, Nat.le_of_ble_eq_true rfl⟩ ⟨Nat.zero_le _, Nat.zero_le _⟩ rfl hl.1 rfl rfl (Nat.le_of_ble_eq_true rfl) dX12_town_89 (fun H locs hw => ?_)
  refine lv_if_ne (tgt := 100) hx hb dX12_town_92 (by decide) (fun c7 => ?_) (fun c7 => ?_)
  · have hf := (if_neg c7).symm.trans hf
    exact w_X12_town_100 G B hz hc0 hr hlk  h6 v0 _ _ _ hw (lv_sub hl [0] rfl) hf
  · have hf := (if_pos c7).symm.trans hf
    refine lv_aload_n hx hb dX12_town_95 rfl (lv_at hl 0 rfl) ?_
    refine lv_iconst (v := 2) hx hb dX12_town_96 (by decide) ?_
    obtain ⟨h8, e, hf⟩ := ob hf
    refine q_callV (As := [.int 2]) (rest := []) (st1 := []) (c_X12_fails G e) B hw hz hc0 (k_X12_fails e) (by decide) (ci := 12) rfl rfl my_X12_fails mv_X12_fails tw_6_196 ⟨Nat.le_of_ble_eq_true rfl, Nat.le_of_ble_eq_true rfl⟩ ⟨Nat.zero_le _, Nat.zero_le _⟩ rfl hl.1 rfl rfl (Nat.le_of_ble_eq_true rfl) dX12_town_97 (fun H locs hw => ?_)
    exact w_X12_town_100 G B hz hc0 hr hlk  h8 v0 _ _ _ hw (lv_sub hl [0] rfl) hf
set_option maxHeartbeats 4000000 in
theorem w_X12_town_69 {p : Program} {l : Launch} {e : Env} {s : State} {m : MethodId} {args : Array Value} {below : List Frame} {meth : Method} {c : Code} {s0 : State} {E : Ev} {z : Sh} {n : Nat} {r : Int32} {h' : Hp} (G : Gl s0 E) (B : Bd p s0 s E m c cX12_town 3 RX12) (hz : s0.heap.size ≤ z.sz) (hc0 : s.heap.size + 0 = z.sz) (hr : meth.sig.returnType = (some .int)) (hlk : meth.locks = false) : ∀ (h : Hp) (v0 : Nat) (H : Heap) (locs : List Loc) (ls : Array Slot), Pw s0 s E z h H locs → lv_has ls 3 [(0, .ref v0)] → f_X12_town_69 n z h v0 = some (r, h') → W p l e (rmO 71 3815) s m args below meth c H locs 0 0 (Zt below s0 E z h' (some (.int r)) args s 0 0) (F0 m 69 ls []) := by
  have hx := B.1
  have hb := B.2.1
  intro h v0 H locs ls hw hl hf
  unfold f_X12_town_69 at hf
  refine lv_aload_n hx hb dX12_town_69 rfl (lv_at hl 0 rfl) ?_
  refine lv_iconst (v := 2) hx hb dX12_town_70 (by decide) ?_
  obtain ⟨h1, e, hf⟩ := ob hf
  refine q_callV (As := [.int 2]) (rest := []) (st1 := []) (c_X12_fails G e) B hw hz hc0 (k_X12_fails e) (by decide) (ci := 12) rfl rfl my_X12_fails mv_X12_fails tw_6_196 ⟨Nat.le_of_ble_eq_true rfl, Nat.le_of_ble_eq_true rfl⟩ ⟨Nat.zero_le _, Nat.zero_le _⟩ rfl hl.1 rfl rfl (Nat.le_of_ble_eq_true rfl) dX12_town_71 (fun H locs hw => ?_)
  exact w_X12_town_74 G B hz hc0 hr hlk  h1 v0 _ _ _ hw (lv_sub hl [0] rfl) hf
set_option maxHeartbeats 4000000 in
theorem c_X12_town {l : Launch} {s0 : State} {E : Ev} (G : Gl s0 E) {n : Nat} {z : Sh} {h : Hp} {v0 : Nat} {v1 : Int32} {r : Int32} {h' : Hp} (hf : f_X12_town n z h v0 v1 = some (r, h')) : Ct l s0 E yX12_town cX12_town 3 (some .int) 71 3815 [.ref v0, .int v1] z h h' (some (.int r)) := by
  refine Ct.of G (by decide) (Nat.le_of_ble_eq_true rfl) ?_
  intro p e s m below meth c ls B hw hz hc0 hr hlk hl
  have B : Bd p s0 s E m c cX12_town 3 RX12 := B
  have hx := B.1
  have hb := B.2.1
  have hl : lv_has ls 3 [(0, .ref v0), (1, .int v1)] := hl
  unfold f_X12_town at hf
  obtain ⟨_, hf⟩ := if_some hf
  refine lv_aload_n hx hb dX12_town_0 rfl (lv_at hl 0 rfl) ?_
  refine lv_iconst (v := 0) hx hb dX12_town_1 (by decide) ?_
  obtain ⟨h1, e, hf⟩ := ob hf
  refine q_putI e B hw fd_12_0.1 fd_12_0.2.1 fd_12_0.2.2.1 fd_12_0.2.2.2.1 fd_12_0.2.2.2.2 rfl rfl (tyX12_ok 0 (by decide)) tyX12 tyX12_ok nmX12 tw_6_43 dX12_town_2 (fun H locs hw => ?_)
  refine lv_iload_n hx hb dX12_town_5 rfl (lv_at hl 1 rfl) ?_
  refine lv_i2l (v := (Int32.toInt64 v1)) hx hb dX12_town_6 rfl ?_
  refine lv_lconst (v := 0) hx hb dX12_town_7 (by decide) ?_
  refine lv_aload_n hx hb dX12_town_8 rfl (lv_at hl 0 rfl) ?_
  obtain ⟨x2, e, hf⟩ := ob hf
  refine q_getI e B hw fd_12_5.1 fd_12_5.2.1 fd_12_5.2.2.1 fd_12_5.2.2.2.1 fd_12_5.2.2.2.2 rfl tw_6_48 dX12_town_9 ?_
  refine lv_i2l (v := (Int32.toInt64 x2)) hx hb dX12_town_12 rfl ?_
  obtain ⟨x3, e, hf⟩ := ob hf
  refine q_callS (As := [.long (Int32.toInt64 v1), .long 0, .long (Int32.toInt64 x2)]) (rest := []) (st1 := [.int x3]) (c_X12_within G e) B hw hz hc0 my_X12_within mv_X12_within tw_6_162 ⟨Nat.le_of_ble_eq_true rfl, Nat.le_of_ble_eq_true rfl⟩ ⟨Nat.zero_le _, Nat.zero_le _⟩ rfl hl.1 rfl rfl (Nat.le_of_ble_eq_true rfl) dX12_town_13 (fun H locs hw => ?_)
  refine lv_if_ne (tgt := 22) hx hb dX12_town_16 (by decide) (fun c4 => ?_) (fun c4 => ?_)
  · have hf := (if_neg c4).symm.trans hf
    refine lv_aload_n hx hb dX12_town_22 rfl (lv_at hl 0 rfl) ?_
    refine lv_iload_n hx hb dX12_town_23 rfl (lv_at hl 1 rfl) ?_
    obtain ⟨h5, e, hf⟩ := ob hf
    refine q_putI e B hw fd_12_8.1 fd_12_8.2.1 fd_12_8.2.2.1 fd_12_8.2.2.2.1 fd_12_8.2.2.2.2 rfl rfl (tyX12_ok 8 (by decide)) tyX12 tyX12_ok nmX12 tw_6_51 dX12_town_24 (fun H locs hw => ?_)
    refine lv_aload_n hx hb dX12_town_27 rfl (lv_at hl 0 rfl) ?_
    refine lv_iconst (v := 0) hx hb dX12_town_28 (by decide) ?_
    obtain ⟨h6, e, hf⟩ := ob hf
    refine q_putI e B hw fd_12_5.1 fd_12_5.2.1 fd_12_5.2.2.1 fd_12_5.2.2.2.1 fd_12_5.2.2.2.2 rfl rfl (tyX12_ok 5 (by decide)) tyX12 tyX12_ok nmX12 tw_6_48 dX12_town_29 (fun H locs hw => ?_)
    refine lv_aload_n hx hb dX12_town_32 rfl (lv_at hl 0 rfl) ?_
    refine lv_iconst (v := 0) hx hb dX12_town_33 (by decide) ?_
    obtain ⟨h7, e, hf⟩ := ob hf
    refine q_putI e B hw fd_12_7.1 fd_12_7.2.1 fd_12_7.2.2.1 fd_12_7.2.2.2.1 fd_12_7.2.2.2.2 rfl rfl (tyX12_ok 7 (by decide)) tyX12 tyX12_ok nmX12 tw_6_50 dX12_town_34 (fun H locs hw => ?_)
    refine lv_aload_n hx hb dX12_town_37 rfl (lv_at hl 0 rfl) ?_
    refine lv_iconst (v := 0) hx hb dX12_town_38 (by decide) ?_
    obtain ⟨h8, e, hf⟩ := ob hf
    refine q_putI e B hw fd_12_11.1 fd_12_11.2.1 fd_12_11.2.2.1 fd_12_11.2.2.2.1 fd_12_11.2.2.2.2 rfl rfl (tyX12_ok 11 (by decide)) tyX12 tyX12_ok nmX12 tw_6_54 dX12_town_39 (fun H locs hw => ?_)
    refine lv_aload_n hx hb dX12_town_42 rfl (lv_at hl 0 rfl) ?_
    obtain ⟨a9, e, hf⟩ := ob hf
    refine q_getR e B hw fd_12_4.1 fd_12_4.2.1 fd_12_4.2.2.1 fd_12_4.2.2.2.1 fd_12_4.2.2.2.2 rfl tw_6_47 dX12_town_43 ?_
    obtain ⟨h10, e, hf⟩ := ob hf
    refine q_callS (As := [.ref a9]) (rest := []) (st1 := []) (c_X12_plain G e) B hw hz hc0 my_X12_plain mv_X12_plain tw_6_40 ⟨Nat.le_of_ble_eq_true rfl, Nat.le_of_ble_eq_true rfl⟩ ⟨Nat.zero_le _, Nat.zero_le _⟩ rfl hl.1 rfl rfl (Nat.le_of_ble_eq_true rfl) dX12_town_46 (fun H locs hw => ?_)
    refine lv_aload_n hx hb dX12_town_49 rfl (lv_at hl 0 rfl) ?_
    obtain ⟨h11, e, hf⟩ := ob hf
    refine q_callV (As := []) (rest := []) (st1 := []) (c_X12_next G e) B hw hz hc0 (k_X12_next e) (by decide) (ci := 12) rfl rfl my_X12_next mv_X12_next tw_6_166 ⟨Nat.le_of_ble_eq_true rfl, Nat.le_of_ble_eq_true rfl⟩ ⟨Nat.zero_le _, Nat.zero_le _⟩ rfl hl.1 rfl rfl (Nat.le_of_ble_eq_true rfl) dX12_town_50 (fun H locs hw => ?_)
    refine lv_aload_n hx hb dX12_town_53 rfl (lv_at hl 0 rfl) ?_
    refine lv_iconst (v := 0) hx hb dX12_town_54 (by decide) ?_
    obtain ⟨⟨x12, h13⟩, e, hf⟩ := ob hf
    refine q_callV (As := [.int 0]) (rest := []) (st1 := [.int x12]) (c_X12_eats G e) B hw hz hc0 (k_X12_eats e) (by decide) (ci := 12) rfl rfl my_X12_eats mv_X12_eats tw_6_188 ⟨Nat.le_of_ble_eq_true rfl, Nat.le_of_ble_eq_true rfl⟩ ⟨Nat.zero_le _, Nat.zero_le _⟩ rfl hl.1 rfl rfl (Nat.le_of_ble_eq_true rfl) dX12_town_55 (fun H locs hw => ?_)
    refine lv_if_eq (tgt := 69) hx hb dX12_town_58 (by decide) (fun c14 => ?_) (fun c14 => ?_)
    · have hf := (if_pos c14).symm.trans hf
      exact w_X12_town_69 G B hz hc0 hr hlk  h13 v0 _ _ _ hw (lv_sub hl [0] rfl) hf
    · have hf := (if_neg c14).symm.trans hf
      refine lv_aload_n hx hb dX12_town_61 rfl (lv_at hl 0 rfl) ?_
      refine lv_iconst (v := 1) hx hb dX12_town_62 (by decide) ?_
      obtain ⟨⟨x15, h16⟩, e, hf⟩ := ob hf
      refine q_callV (As := [.int 1]) (rest := []) (st1 := [.int x15]) (c_X12_eats G e) B hw hz hc0 (k_X12_eats e) (by decide) (ci := 12) rfl rfl my_X12_eats mv_X12_eats tw_6_188 ⟨Nat.le_of_ble_eq_true rfl, Nat.le_of_ble_eq_true rfl⟩ ⟨Nat.zero_le _, Nat.zero_le _⟩ rfl hl.1 rfl rfl (Nat.le_of_ble_eq_true rfl) dX12_town_63 (fun H locs hw => ?_)
      refine lv_if_ne (tgt := 74) hx hb dX12_town_66 (by decide) (fun c17 => ?_) (fun c17 => ?_)
      · have hf := (if_neg c17).symm.trans hf
        exact w_X12_town_74 G B hz hc0 hr hlk  h16 v0 _ _ _ hw (lv_sub hl [0] rfl) hf
      · have hf := (if_pos c17).symm.trans hf
        exact w_X12_town_69 G B hz hc0 hr hlk  h16 v0 _ _ _ hw (lv_sub hl [0] rfl) hf
  · have hf := (if_pos c4).symm.trans hf
    refine lv_ldc hx hb B.2.2.2.1 (B.w tw_6_165 rfl) dX12_town_19 ?_
    obtain ⟨rfl, rfl⟩ := so2 hf
    exact q_iret B hw hz hc0 hr hlk dX12_town_21
