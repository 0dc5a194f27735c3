/-! SecondLife$Reader.next()V -/
def f_X6_next_229 (n : Nat) (z : Sh) (h : Hp) (v0 : Nat) : Option (Hp) :=
  (gI z h 6 v0 5).bind fun x1 =>
  (gI z h 6 v0 4).bind fun x2 =>
  if (x1 - x2) ≤ 3 then
    (pI z h 6 v0 6 1).bind fun h4 =>
    some h4
  else
    (pI z h 6 v0 6 4).bind fun h5 =>
    some h5
def f_X6_next_216 (n : Nat) (z : Sh) (k155 : Hp → Nat → Option (Hp)) (h : Hp) (v0 : Nat) : Option (Hp) :=
  (gI z h 6 v0 5).bind fun x1 =>
  (pI z h 6 v0 5 (x1 + 1)).bind fun h2 =>
  k155 h2 v0
def f_X6_next_155 (n : Nat) (z : Sh) : Nat → Hp → Nat → Option (Hp)
  | 0, _, _ => none
  | i + 1, h, v0 =>
    (gI z h 6 v0 5).bind fun x1 =>
    (gI z h 6 v0 3).bind fun x2 =>
    if x2 ≤ x1 then
      f_X6_next_229 n z h v0
    else
      (gI z h 6 v0 5).bind fun x4 =>
      (f_X6_byteAt z h v0 x4).bind fun x5 =>
      (f_X6_isDigit z h x5).bind fun x6 =>
      if x6 = 0 then
        f_X6_next_229 n z h v0
      else
        (gI z h 6 v0 5).bind fun x8 =>
        (gI z h 6 v0 4).bind fun x9 =>
        if 3 ≤ (x8 - x9) then
          f_X6_next_216 n z (f_X6_next_155 n z i) h v0
        else
          (gI z h 6 v0 7).bind fun x11 =>
          (gI z h 6 v0 5).bind fun x12 =>
          (f_X6_byteAt z h v0 x12).bind fun x13 =>
          (pI z h 6 v0 7 (((x11 * 10) + x13) - 48)).bind fun h14 =>
          f_X6_next_216 n z (f_X6_next_155 n z i) h14 v0
def f_X6_next_102 (n : Nat) (z : Sh) : Nat → Hp → Nat → Option (Hp)
  | 0, _, _ => none
  | i + 1, h, v0 =>
    (gI z h 6 v0 5).bind fun x1 =>
    (gI z h 6 v0 3).bind fun x2 =>
    if x2 ≤ x1 then
      some h
    else
      (gI z h 6 v0 5).bind fun x4 =>
      (f_X6_byteAt z h v0 x4).bind fun x5 =>
      (f_X6_isLetter z h x5).bind fun x6 =>
      if x6 = 0 then
        some h
      else
        (gI z h 6 v0 5).bind fun x8 =>
        (pI z h 6 v0 5 (x8 + 1)).bind fun h9 =>
        (f_X6_next_102 n z i) h9 v0
def f_X6_next_46 (n : Nat) (z : Sh) (h : Hp) (v0 : Nat) : Option (Hp) :=
  (gI z h 6 v0 4).bind fun x1 =>
  (gI z h 6 v0 3).bind fun x2 =>
  if x1 < x2 then
    (gI z h 6 v0 4).bind fun x4 =>
    (pI z h 6 v0 5 (x4 + 1)).bind fun h5 =>
    (gI z h5 6 v0 4).bind fun x6 =>
    (f_X6_byteAt z h5 v0 x6).bind fun x7 =>
    (f_X6_isLetter z h5 x7).bind fun x8 =>
    if x8 = 0 then
      (f_X6_isDigit z h5 x7).bind fun x10 =>
      if x10 = 0 then
        (f_J0_indexOf_0f7a4 n z h5 (z.st 10) ((Int32.toUInt32 x7 % 65536).toInt32)).bind fun x12 =>
        if x12 < 0 then
          (pI z h5 6 v0 6 4).bind fun h14 =>
          some h14
        else
          (pI z h5 6 v0 6 2).bind fun h15 =>
          some h15
      else
        (pI z h5 6 v0 7 (x7 - 48)).bind fun h16 =>
        f_X6_next_155 n z n h16 v0
    else
      (pI z h5 6 v0 6 0).bind fun h17 =>
      f_X6_next_102 n z n h17 v0
  else
    (gI z h 6 v0 4).bind fun x18 =>
    (pI z h 6 v0 5 x18).bind fun h19 =>
    (pI z h19 6 v0 6 3).bind fun h20 =>
    some h20
def f_X6_next_8 (n : Nat) (z : Sh) : Nat → Hp → Nat → Option (Hp)
  | 0, _, _ => none
  | i + 1, h, v0 =>
    (gI z h 6 v0 4).bind fun x1 =>
    (gI z h 6 v0 3).bind fun x2 =>
    if x2 ≤ x1 then
      f_X6_next_46 n z h v0
    else
      (gI z h 6 v0 4).bind fun x4 =>
      (f_X6_byteAt z h v0 x4).bind fun x5 =>
      (f_X6_isBlank z h x5).bind fun x6 =>
      if x6 = 0 then
        f_X6_next_46 n z h v0
      else
        (gI z h 6 v0 4).bind fun x8 =>
        (pI z h 6 v0 4 (x8 + 1)).bind fun h9 =>
        (f_X6_next_8 n z i) h9 v0
def f_X6_next (n : Nat) (z : Sh) (h : Hp) (v0 : Nat) : Option (Hp) :=
  if z.K v0 = 6 then
    (gI z h 6 v0 5).bind fun x1 =>
    (pI z h 6 v0 4 x1).bind fun h2 =>
    f_X6_next_8 n z n h2 v0
  else none
theorem k_X6_next {n : Nat} {z : Sh} {h : Hp} {v0 : Nat} {w : Hp} (hf : f_X6_next n z h v0 = some w) : z.K v0 = 6 := by
  unfold f_X6_next at hf
  exact (if_some hf).1
set_option maxHeartbeats 4000000 in
theorem w_X6_next_229 {p : Program} {l : Launch} {e : Env} {s : State} {m : MethodId} {args : Array Value} {below : List Frame} {meth : Method} {c : Code} {s0 : State} {E : Ev} {z : Sh} {n : Nat} {h' : Hp} (G : Gl s0 E) (B : Bd p s0 s E m c cX6_next 2 RX6) (hz : s0.heap.size ≤ z.sz) (hc0 : s.heap.size + 0 = z.sz) (hr : meth.sig.returnType = none) (hlk : meth.locks = false) : ∀ (h : Hp) (v0 : Nat) (H : Heap) (locs : List Loc) (ls : Array Slot), Pw s0 s E z h H locs → lv_has ls 2 [(0, .ref v0)] → f_X6_next_229 n z h v0 = some h' → W p l e (rmO 4 91) s m args below meth c H locs 0 0 (Zt below s0 E z h' (none) args s 0 0) (F0 m 229 ls []) := by
  have hx := B.1
  have hb := B.2.1
  intro h v0 H locs ls hw hl hf
  unfold f_X6_next_229 at hf
  refine lv_aload_n hx hb dX6_next_229 rfl (lv_at hl 0 rfl) ?_
  refine lv_aload_n hx hb dX6_next_230 rfl (lv_at hl 0 rfl) ?_
  obtain ⟨x1, e, hf⟩ := ob hf
  refine q_getI e B hw fd_6_5.1 fd_6_5.2.1 fd_6_5.2.2.1 fd_6_5.2.2.2.1 fd_6_5.2.2.2.2 rfl tw_1_110 dX6_next_231 ?_
  refine lv_aload_n hx hb dX6_next_234 rfl (lv_at hl 0 rfl) ?_
  obtain ⟨x2, e, hf⟩ := ob hf
  refine q_getI e B hw fd_6_4.1 fd_6_4.2.1 fd_6_4.2.2.1 fd_6_4.2.2.2.1 fd_6_4.2.2.2.2 rfl tw_1_109 dX6_next_235 ?_
  refine lv_isub hx hb dX6_next_238 ?_
  refine lv_iconst (v := 3) hx hb dX6_next_239 (by decide) ?_
  refine lv_icmp_le (tgt := 247) hx hb dX6_next_240 (by decide) (fun c3 => ?_) (fun c3 => ?_)
  · have hf := (if_pos c3).symm.trans hf
    refine lv_iconst (v := 1) hx hb dX6_next_247 (by decide) ?_
    obtain ⟨h4, e, hf⟩ := ob hf
    refine q_putI e B hw fd_6_6.1 fd_6_6.2.1 fd_6_6.2.2.1 fd_6_6.2.2.2.1 fd_6_6.2.2.2.2 rfl rfl (tyX6_ok 6 (by decide)) tyX6 tyX6_ok nmX6 tw_1_111 dX6_next_248 (fun H locs hw => ?_)
    refine lv_goto (tgt := 273) hx hb dX6_next_251 (by decide) ?_
    obtain rfl := so hf
    exact q_vret B hw hz hc0 hr hlk dX6_next_273
  · have hf := (if_neg c3).symm.trans hf
    refine lv_iconst (v := 4) hx hb dX6_next_243 (by decide) ?_
    refine lv_goto (tgt := 248) hx hb dX6_next_244 (by decide) ?_
    obtain ⟨h5, e, hf⟩ := ob hf
    refine q_putI e B hw fd_6_6.1 fd_6_6.2.1 fd_6_6.2.2.1 fd_6_6.2.2.2.1 fd_6_6.2.2.2.2 rfl rfl (tyX6_ok 6 (by decide)) tyX6 tyX6_ok nmX6 tw_1_111 dX6_next_248 (fun H locs hw => ?_)
    refine lv_goto (tgt := 273) hx hb dX6_next_251 (by decide) ?_
    obtain rfl := so hf
    exact q_vret B hw hz hc0 hr hlk dX6_next_273
set_option maxHeartbeats 4000000 in
theorem w_X6_next_216 {p : Program} {l : Launch} {e : Env} {s : State} {m : MethodId} {args : Array Value} {below : List Frame} {meth : Method} {c : Code} {s0 : State} {E : Ev} {z : Sh} {n : Nat} {k155 : Hp → Nat → Option (Hp)} {h' : Hp} (G : Gl s0 E) (B : Bd p s0 s E m c cX6_next 2 RX6) (hz : s0.heap.size ≤ z.sz) (hc0 : s.heap.size + 0 = z.sz) (hr : meth.sig.returnType = none) (hlk : meth.locks = false) (hk155 : ∀ (h : Hp) (v0 : Nat) (H : Heap) (locs : List Loc) (ls : Array Slot), Pw s0 s E z h H locs → lv_has ls 2 [(0, .ref v0)] → k155 h v0 = some h' → W p l e (rmO 4 91) s m args below meth c H locs 0 0 (Zt below s0 E z h' (none) args s 0 0) (F0 m 155 ls [])) : ∀ (h : Hp) (v0 : Nat) (H : Heap) (locs : List Loc) (ls : Array Slot), Pw s0 s E z h H locs → lv_has ls 2 [(0, .ref v0)] → f_X6_next_216 n z k155 h v0 = some h' → W p l e (rmO 4 91) s m args below meth c H locs 0 0 (Zt below s0 E z h' (none) args s 0 0) (F0 m 216 ls []) := by
  have hx := B.1
  have hb := B.2.1
  intro h v0 H locs ls hw hl hf
  unfold f_X6_next_216 at hf
  refine lv_aload_n hx hb dX6_next_216 rfl (lv_at hl 0 rfl) ?_
  refine lv_dup hx hb dX6_next_217 rfl ?_
  obtain ⟨x1, e, hf⟩ := ob hf
  refine q_getI e B hw fd_6_5.1 fd_6_5.2.1 fd_6_5.2.2.1 fd_6_5.2.2.2.1 fd_6_5.2.2.2.2 rfl tw_1_110 dX6_next_218 ?_
  refine lv_iconst (v := 1) hx hb dX6_next_221 (by decide) ?_
  refine lv_iadd hx hb dX6_next_222 ?_
  obtain ⟨h2, e, hf⟩ := ob hf
  refine q_putI e B hw fd_6_5.1 fd_6_5.2.1 fd_6_5.2.2.1 fd_6_5.2.2.2.1 fd_6_5.2.2.2.2 rfl rfl (tyX6_ok 5 (by decide)) tyX6 tyX6_ok nmX6 tw_1_110 dX6_next_223 (fun H locs hw => ?_)
  refine lv_goto (tgt := 155) hx hb dX6_next_226 (by decide) ?_
  exact hk155 h2 v0 _ _ _ hw (lv_sub hl [0] rfl) hf
set_option maxHeartbeats 4000000 in
theorem w_X6_next_155 {p : Program} {l : Launch} {e : Env} {s : State} {m : MethodId} {args : Array Value} {below : List Frame} {meth : Method} {c : Code} {s0 : State} {E : Ev} {z : Sh} {n : Nat} {h' : Hp} (G : Gl s0 E) (B : Bd p s0 s E m c cX6_next 2 RX6) (hz : s0.heap.size ≤ z.sz) (hc0 : s.heap.size + 0 = z.sz) (hr : meth.sig.returnType = none) (hlk : meth.locks = false) : ∀ (i : Nat), ∀ (h : Hp) (v0 : Nat) (H : Heap) (locs : List Loc) (ls : Array Slot), Pw s0 s E z h H locs → lv_has ls 2 [(0, .ref v0)] → f_X6_next_155 n z i h v0 = some h' → W p l e (rmO 4 91) s m args below meth c H locs 0 0 (Zt below s0 E z h' (none) args s 0 0) (F0 m 155 ls []) := by
  have hx := B.1
  have hb := B.2.1
  intro i
  induction i with
  | zero =>
    intro h v0 H locs ls hw hl hf
    have hf := (f_X6_next_155.eq_1 ..).symm.trans hf
    cases hf
  | succ i ih =>
    intro h v0 H locs ls hw hl hf
    have hf := (f_X6_next_155.eq_2 ..).symm.trans hf
    refine lv_aload_n hx hb dX6_next_155 rfl (lv_at hl 0 rfl) ?_
    obtain ⟨x1, e, hf⟩ := ob hf
    refine q_getI e B hw fd_6_5.1 fd_6_5.2.1 fd_6_5.2.2.1 fd_6_5.2.2.2.1 fd_6_5.2.2.2.2 rfl tw_1_110 dX6_next_156 ?_
    refine lv_aload_n hx hb dX6_next_159 rfl (lv_at hl 0 rfl) ?_
    obtain ⟨x2, e, hf⟩ := ob hf
    refine q_getI e B hw fd_6_3.1 fd_6_3.2.1 fd_6_3.2.2.1 fd_6_3.2.2.2.1 fd_6_3.2.2.2.2 rfl tw_1_108 dX6_next_160 ?_
    refine lv_icmp_ge (tgt := 229) hx hb dX6_next_163 (by decide) (fun c3 => ?_) (fun c3 => ?_)
    · have hf := (if_pos c3).symm.trans hf
      exact w_X6_next_229 G B hz hc0 hr hlk  h v0 _ _ _ hw (lv_sub hl [0] rfl) hf
    · have hf := (if_neg c3).symm.trans hf
      refine lv_aload_n hx hb dX6_next_166 rfl (lv_at hl 0 rfl) ?_
      refine lv_aload_n hx hb dX6_next_167 rfl (lv_at hl 0 rfl) ?_
      obtain ⟨x4, e, hf⟩ := ob hf
      refine q_getI e B hw fd_6_5.1 fd_6_5.2.1 fd_6_5.2.2.1 fd_6_5.2.2.2.1 fd_6_5.2.2.2.2 rfl tw_1_110 dX6_next_168 ?_
      obtain ⟨x5, e, hf⟩ := ob hf
      refine q_callV (As := [.int x4]) (rest := []) (st1 := [.int x5]) (c_X6_byteAt G e) B hw hz hc0 (k_X6_byteAt e) (by decide) (ci := 6) rfl rfl my_X6_byteAt mv_X6_byteAt tw_2_175 ⟨Nat.le_of_ble_eq_true rfl, Nat.le_of_ble_eq_true rfl⟩ ⟨Nat.zero_le _, Nat.zero_le _⟩ rfl hl.1 rfl rfl (Nat.le_of_ble_eq_true rfl) dX6_next_171 (fun H locs hw => ?_)
      obtain ⟨x6, e, hf⟩ := ob hf
      refine q_callS (As := [.int x5]) (rest := []) (st1 := [.int x6]) (c_X6_isDigit G e) B hw hz hc0 my_X6_isDigit mv_X6_isDigit tw_2_185 ⟨Nat.le_of_ble_eq_true rfl, Nat.le_of_ble_eq_true rfl⟩ ⟨Nat.zero_le _, Nat.zero_le _⟩ rfl hl.1 rfl rfl (Nat.le_of_ble_eq_true rfl) dX6_next_174 (fun H locs hw => ?_)
      refine lv_if_eq (tgt := 229) hx hb dX6_next_177 (by decide) (fun c7 => ?_) (fun c7 => ?_)
      · have hf := (if_pos c7).symm.trans hf
        exact w_X6_next_229 G B hz hc0 hr hlk  h v0 _ _ _ hw (lv_sub hl [0] rfl) hf
      · have hf := (if_neg c7).symm.trans hf
        refine lv_aload_n hx hb dX6_next_180 rfl (lv_at hl 0 rfl) ?_
        obtain ⟨x8, e, hf⟩ := ob hf
        refine q_getI e B hw fd_6_5.1 fd_6_5.2.1 fd_6_5.2.2.1 fd_6_5.2.2.2.1 fd_6_5.2.2.2.2 rfl tw_1_110 dX6_next_181 ?_
        refine lv_aload_n hx hb dX6_next_184 rfl (lv_at hl 0 rfl) ?_
        obtain ⟨x9, e, hf⟩ := ob hf
        refine q_getI e B hw fd_6_4.1 fd_6_4.2.1 fd_6_4.2.2.1 fd_6_4.2.2.2.1 fd_6_4.2.2.2.2 rfl tw_1_109 dX6_next_185 ?_
        refine lv_isub hx hb dX6_next_188 ?_
        refine lv_iconst (v := 3) hx hb dX6_next_189 (by decide) ?_
        refine lv_icmp_ge (tgt := 216) hx hb dX6_next_190 (by decide) (fun c10 => ?_) (fun c10 => ?_)
        · have hf := (if_pos c10).symm.trans hf
          exact w_X6_next_216 G B hz hc0 hr hlk ih h v0 _ _ _ hw (lv_sub hl [0] rfl) hf
        · have hf := (if_neg c10).symm.trans hf
          refine lv_aload_n hx hb dX6_next_193 rfl (lv_at hl 0 rfl) ?_
          refine lv_aload_n hx hb dX6_next_194 rfl (lv_at hl 0 rfl) ?_
          obtain ⟨x11, e, hf⟩ := ob hf
          refine q_getI e B hw fd_6_7.1 fd_6_7.2.1 fd_6_7.2.2.1 fd_6_7.2.2.2.1 fd_6_7.2.2.2.2 rfl tw_1_112 dX6_next_195 ?_
          refine lv_bipush (v := 10) hx hb dX6_next_198 (by decide) ?_
          refine lv_imul hx hb dX6_next_200 ?_
          refine lv_aload_n hx hb dX6_next_201 rfl (lv_at hl 0 rfl) ?_
          refine lv_aload_n hx hb dX6_next_202 rfl (lv_at hl 0 rfl) ?_
          obtain ⟨x12, e, hf⟩ := ob hf
          refine q_getI e B hw fd_6_5.1 fd_6_5.2.1 fd_6_5.2.2.1 fd_6_5.2.2.2.1 fd_6_5.2.2.2.2 rfl tw_1_110 dX6_next_203 ?_
          obtain ⟨x13, e, hf⟩ := ob hf
          refine q_callV (As := [.int x12]) (rest := [.int (x11 * 10), .ref v0]) (st1 := [.int x13, .int (x11 * 10), .ref v0]) (c_X6_byteAt G e) B hw hz hc0 (k_X6_byteAt e) (by decide) (ci := 6) rfl rfl my_X6_byteAt mv_X6_byteAt tw_2_175 ⟨Nat.le_of_ble_eq_true rfl, Nat.le_of_ble_eq_true rfl⟩ ⟨Nat.zero_le _, Nat.zero_le _⟩ rfl hl.1 rfl rfl (Nat.le_of_ble_eq_true rfl) dX6_next_206 (fun H locs hw => ?_)
          refine lv_iadd hx hb dX6_next_209 ?_
          refine lv_bipush (v := 48) hx hb dX6_next_210 (by decide) ?_
          refine lv_isub hx hb dX6_next_212 ?_
          obtain ⟨h14, e, hf⟩ := ob hf
          refine q_putI e B hw fd_6_7.1 fd_6_7.2.1 fd_6_7.2.2.1 fd_6_7.2.2.2.1 fd_6_7.2.2.2.2 rfl rfl (tyX6_ok 7 (by decide)) tyX6 tyX6_ok nmX6 tw_1_112 dX6_next_213 (fun H locs hw => ?_)
          exact w_X6_next_216 G B hz hc0 hr hlk ih h14 v0 _ _ _ hw (lv_sub hl [0] rfl) hf
set_option maxHeartbeats 4000000 in
theorem w_X6_next_102 {p : Program} {l : Launch} {e : Env} {s : State} {m : MethodId} {args : Array Value} {below : List Frame} {meth : Method} {c : Code} {s0 : State} {E : Ev} {z : Sh} {n : Nat} {h' : Hp} (G : Gl s0 E) (B : Bd p s0 s E m c cX6_next 2 RX6) (hz : s0.heap.size ≤ z.sz) (hc0 : s.heap.size + 0 = z.sz) (hr : meth.sig.returnType = none) (hlk : meth.locks = false) : ∀ (i : Nat), ∀ (h : Hp) (v0 : Nat) (H : Heap) (locs : List Loc) (ls : Array Slot), Pw s0 s E z h H locs → lv_has ls 2 [(0, .ref v0)] → f_X6_next_102 n z i h v0 = some h' → W p l e (rmO 4 91) s m args below meth c H locs 0 0 (Zt below s0 E z h' (none) args s 0 0) (F0 m 102 ls []) := by
  have hx := B.1
  have hb := B.2.1
  intro i
  induction i with
  | zero =>
    intro h v0 H locs ls hw hl hf
    have hf := (f_X6_next_102.eq_1 ..).symm.trans hf
    cases hf
  | succ i ih =>
    intro h v0 H locs ls hw hl hf
    have hf := (f_X6_next_102.eq_2 ..).symm.trans hf
    refine lv_aload_n hx hb dX6_next_102 rfl (lv_at hl 0 rfl) ?_
    obtain ⟨x1, e, hf⟩ := ob hf
    refine q_getI e B hw fd_6_5.1 fd_6_5.2.1 fd_6_5.2.2.1 fd_6_5.2.2.2.1 fd_6_5.2.2.2.2 rfl tw_1_110 dX6_next_103 ?_
    refine lv_aload_n hx hb dX6_next_106 rfl (lv_at hl 0 rfl) ?_
    obtain ⟨x2, e, hf⟩ := ob hf
    refine q_getI e B hw fd_6_3.1 fd_6_3.2.1 fd_6_3.2.2.1 fd_6_3.2.2.2.1 fd_6_3.2.2.2.2 rfl tw_1_108 dX6_next_107 ?_
    refine lv_icmp_ge (tgt := 273) hx hb dX6_next_110 (by decide) (fun c3 => ?_) (fun c3 => ?_)
    · have hf := (if_pos c3).symm.trans hf
      obtain rfl := so hf
      exact q_vret B hw hz hc0 hr hlk dX6_next_273
    · have hf := (if_neg c3).symm.trans hf
      refine lv_aload_n hx hb dX6_next_113 rfl (lv_at hl 0 rfl) ?_
      refine lv_aload_n hx hb dX6_next_114 rfl (lv_at hl 0 rfl) ?_
      obtain ⟨x4, e, hf⟩ := ob hf
      refine q_getI e B hw fd_6_5.1 fd_6_5.2.1 fd_6_5.2.2.1 fd_6_5.2.2.2.1 fd_6_5.2.2.2.2 rfl tw_1_110 dX6_next_115 ?_
      obtain ⟨x5, e, hf⟩ := ob hf
      refine q_callV (As := [.int x4]) (rest := []) (st1 := [.int x5]) (c_X6_byteAt G e) B hw hz hc0 (k_X6_byteAt e) (by decide) (ci := 6) rfl rfl my_X6_byteAt mv_X6_byteAt tw_2_175 ⟨Nat.le_of_ble_eq_true rfl, Nat.le_of_ble_eq_true rfl⟩ ⟨Nat.zero_le _, Nat.zero_le _⟩ rfl hl.1 rfl rfl (Nat.le_of_ble_eq_true rfl) dX6_next_118 (fun H locs hw => ?_)
      obtain ⟨x6, e, hf⟩ := ob hf
      refine q_callS (As := [.int x5]) (rest := []) (st1 := [.int x6]) (c_X6_isLetter G e) B hw hz hc0 my_X6_isLetter mv_X6_isLetter tw_2_182 ⟨Nat.le_of_ble_eq_true rfl, Nat.le_of_ble_eq_true rfl⟩ ⟨Nat.zero_le _, Nat.zero_le _⟩ rfl hl.1 rfl rfl (Nat.le_of_ble_eq_true rfl) dX6_next_121 (fun H locs hw => ?_)
      refine lv_if_eq (tgt := 273) hx hb dX6_next_124 (by decide) (fun c7 => ?_) (fun c7 => ?_)
      · have hf := (if_pos c7).symm.trans hf
        obtain rfl := so hf
        exact q_vret B hw hz hc0 hr hlk dX6_next_273
      · have hf := (if_neg c7).symm.trans hf
        refine lv_aload_n hx hb dX6_next_127 rfl (lv_at hl 0 rfl) ?_
        refine lv_dup hx hb dX6_next_128 rfl ?_
        obtain ⟨x8, e, hf⟩ := ob hf
        refine q_getI e B hw fd_6_5.1 fd_6_5.2.1 fd_6_5.2.2.1 fd_6_5.2.2.2.1 fd_6_5.2.2.2.2 rfl tw_1_110 dX6_next_129 ?_
        refine lv_iconst (v := 1) hx hb dX6_next_132 (by decide) ?_
        refine lv_iadd hx hb dX6_next_133 ?_
        obtain ⟨h9, e, hf⟩ := ob hf
        refine q_putI e B hw fd_6_5.1 fd_6_5.2.1 fd_6_5.2.2.1 fd_6_5.2.2.2.1 fd_6_5.2.2.2.2 rfl rfl (tyX6_ok 5 (by decide)) tyX6 tyX6_ok nmX6 tw_1_110 dX6_next_134 (fun H locs hw => ?_)
        refine lv_goto (tgt := 102) hx hb dX6_next_137 (by decide) ?_
        exact ih h9 v0 _ _ _ hw (lv_sub hl [0] rfl) hf
set_option maxHeartbeats 4000000 in
theorem w_X6_next_46 {p : Program} {l : Launch} {e : Env} {s : State} {m : MethodId} {args : Array Value} {below : List Frame} {meth : Method} {c : Code} {s0 : State} {E : Ev} {z : Sh} {n : Nat} {h' : Hp} (G : Gl s0 E) (B : Bd p s0 s E m c cX6_next 2 RX6) (hz : s0.heap.size ≤ z.sz) (hc0 : s.heap.size + 0 = z.sz) (hr : meth.sig.returnType = none) (hlk : meth.locks = false) : ∀ (h : Hp) (v0 : Nat) (H : Heap) (locs : List Loc) (ls : Array Slot), Pw s0 s E z h H locs → lv_has ls 2 [(0, .ref v0)] → f_X6_next_46 n z h v0 = some h' → W p l e (rmO 4 91) s m args below meth c H locs 0 0 (Zt below s0 E z h' (none) args s 0 0) (F0 m 46 ls []) := by
  have hx := B.1
  have hb := B.2.1
  intro h v0 H locs ls hw hl hf
  unfold f_X6_next_46 at hf
  refine lv_aload_n hx hb dX6_next_46 rfl (lv_at hl 0 rfl) ?_
  obtain ⟨x1, e, hf⟩ := ob hf
  refine q_getI e B hw fd_6_4.1 fd_6_4.2.1 fd_6_4.2.2.1 fd_6_4.2.2.2.1 fd_6_4.2.2.2.2 rfl tw_1_109 dX6_next_47 ?_
  refine lv_aload_n hx hb dX6_next_50 rfl (lv_at hl 0 rfl) ?_
  obtain ⟨x2, e, hf⟩ := ob hf
  refine q_getI e B hw fd_6_3.1 fd_6_3.2.1 fd_6_3.2.2.1 fd_6_3.2.2.2.1 fd_6_3.2.2.2.2 rfl tw_1_108 dX6_next_51 ?_
  refine lv_icmp_lt (tgt := 71) hx hb dX6_next_54 (by decide) (fun c3 => ?_) (fun c3 => ?_)
  · have hf := (if_pos c3).symm.trans hf
    refine lv_aload_n hx hb dX6_next_71 rfl (lv_at hl 0 rfl) ?_
    refine lv_aload_n hx hb dX6_next_72 rfl (lv_at hl 0 rfl) ?_
    obtain ⟨x4, e, hf⟩ := ob hf
    refine q_getI e B hw fd_6_4.1 fd_6_4.2.1 fd_6_4.2.2.1 fd_6_4.2.2.2.1 fd_6_4.2.2.2.2 rfl tw_1_109 dX6_next_73 ?_
    refine lv_iconst (v := 1) hx hb dX6_next_76 (by decide) ?_
    refine lv_iadd hx hb dX6_next_77 ?_
    obtain ⟨h5, e, hf⟩ := ob hf
    refine q_putI e B hw fd_6_5.1 fd_6_5.2.1 fd_6_5.2.2.1 fd_6_5.2.2.2.1 fd_6_5.2.2.2.2 rfl rfl (tyX6_ok 5 (by decide)) tyX6 tyX6_ok nmX6 tw_1_110 dX6_next_78 (fun H locs hw => ?_)
    refine lv_aload_n hx hb dX6_next_81 rfl (lv_at hl 0 rfl) ?_
    refine lv_aload_n hx hb dX6_next_82 rfl (lv_at hl 0 rfl) ?_
    obtain ⟨x6, e, hf⟩ := ob hf
    refine q_getI e B hw fd_6_4.1 fd_6_4.2.1 fd_6_4.2.2.1 fd_6_4.2.2.2.1 fd_6_4.2.2.2.2 rfl tw_1_109 dX6_next_83 ?_
    obtain ⟨x7, e, hf⟩ := ob hf
    refine q_callV (As := [.int x6]) (rest := []) (st1 := [.int x7]) (c_X6_byteAt G e) B hw hz hc0 (k_X6_byteAt e) (by decide) (ci := 6) rfl rfl my_X6_byteAt mv_X6_byteAt tw_2_175 ⟨Nat.le_of_ble_eq_true rfl, Nat.le_of_ble_eq_true rfl⟩ ⟨Nat.zero_le _, Nat.zero_le _⟩ rfl hl.1 rfl rfl (Nat.le_of_ble_eq_true rfl) dX6_next_86 (fun H locs hw => ?_)
    refine lv_istore_n (lv' := [(1, .int x7), (0, .ref v0)]) hx hb dX6_next_89 rfl hl (by decide) rfl (fun ls hl => ?_)
    refine lv_iload_n hx hb dX6_next_90 rfl (lv_at hl 0 rfl) ?_
    obtain ⟨x8, e, hf⟩ := ob hf
    refine q_callS (As := [.int x7]) (rest := []) (st1 := [.int x8]) (c_X6_isLetter G e) B hw hz hc0 my_X6_isLetter mv_X6_isLetter tw_2_182 ⟨Nat.le_of_ble_eq_true rfl, Nat.le_of_ble_eq_true rfl⟩ ⟨Nat.zero_le _, Nat.zero_le _⟩ rfl hl.1 rfl rfl (Nat.le_of_ble_eq_true rfl) dX6_next_91 (fun H locs hw => ?_)
    refine lv_if_eq (tgt := 140) hx hb dX6_next_94 (by decide) (fun c9 => ?_) (fun c9 => ?_)
    · have hf := (if_pos c9).symm.trans hf
      refine lv_iload_n hx hb dX6_next_140 rfl (lv_at hl 0 rfl) ?_
      obtain ⟨x10, e, hf⟩ := ob hf
      refine q_callS (As := [.int x7]) (rest := []) (st1 := [.int x10]) (c_X6_isDigit G e) B hw hz hc0 my_X6_isDigit mv_X6_isDigit tw_2_185 ⟨Nat.le_of_ble_eq_true rfl, Nat.le_of_ble_eq_true rfl⟩ ⟨Nat.zero_le _, Nat.zero_le _⟩ rfl hl.1 rfl rfl (Nat.le_of_ble_eq_true rfl) dX6_next_141 (fun H locs hw => ?_)
      refine lv_if_eq (tgt := 254) hx hb dX6_next_144 (by decide) (fun c11 => ?_) (fun c11 => ?_)
      · have hf := (if_pos c11).symm.trans hf
        refine lv_aload_n hx hb dX6_next_254 rfl (lv_at hl 1 rfl) ?_
        refine q_ldcS (tx := ";:+-*()[]=<>") G (i := 10) (List.mem_of_getElem? (i := 0) (by decide +kernel)) B hw dX6_next_255 ?_
        refine lv_iload_n hx hb dX6_next_257 rfl (lv_at hl 0 rfl) ?_
        refine lv_i2c (v := ((Int32.toUInt32 x7 % 65536).toInt32)) hx hb dX6_next_258 rfl ?_
        obtain ⟨x12, e, hf⟩ := ob hf
        refine q_callVS (As := [.int ((Int32.toUInt32 x7 % 65536).toInt32)]) (rest := [.ref v0]) (st1 := [.int x12, .ref v0]) (c_J0_indexOf_0f7a4 G e) B hw hz hc0 (k_J0_indexOf_0f7a4 e) rfl my_J0_indexOf_0f7a4 mv_J0_indexOf_0f7a4 tw_2_189 ⟨Nat.le_of_ble_eq_true rfl, Nat.le_of_ble_eq_true rfl⟩ ⟨Nat.zero_le _, Nat.zero_le _⟩ rfl hl.1 rfl rfl (Nat.le_of_ble_eq_true rfl) dX6_next_259 (fun H locs hw => ?_)
        refine lv_if_lt (tgt := 269) hx hb dX6_next_262 (by decide) (fun c13 => ?_) (fun c13 => ?_)
        · have hf := (if_pos c13).symm.trans hf
          refine lv_iconst (v := 4) hx hb dX6_next_269 (by decide) ?_
          obtain ⟨h14, e, hf⟩ := ob hf
          refine q_putI e B hw fd_6_6.1 fd_6_6.2.1 fd_6_6.2.2.1 fd_6_6.2.2.2.1 fd_6_6.2.2.2.2 rfl rfl (tyX6_ok 6 (by decide)) tyX6 tyX6_ok nmX6 tw_1_111 dX6_next_270 (fun H locs hw => ?_)
          obtain rfl := so hf
          exact q_vret B hw hz hc0 hr hlk dX6_next_273
        · have hf := (if_neg c13).symm.trans hf
          refine lv_iconst (v := 2) hx hb dX6_next_265 (by decide) ?_
          refine lv_goto (tgt := 270) hx hb dX6_next_266 (by decide) ?_
          obtain ⟨h15, e, hf⟩ := ob hf
          refine q_putI e B hw fd_6_6.1 fd_6_6.2.1 fd_6_6.2.2.1 fd_6_6.2.2.2.1 fd_6_6.2.2.2.2 rfl rfl (tyX6_ok 6 (by decide)) tyX6 tyX6_ok nmX6 tw_1_111 dX6_next_270 (fun H locs hw => ?_)
          obtain rfl := so hf
          exact q_vret B hw hz hc0 hr hlk dX6_next_273
      · have hf := (if_neg c11).symm.trans hf
        refine lv_aload_n hx hb dX6_next_147 rfl (lv_at hl 1 rfl) ?_
        refine lv_iload_n hx hb dX6_next_148 rfl (lv_at hl 0 rfl) ?_
        refine lv_bipush (v := 48) hx hb dX6_next_149 (by decide) ?_
        refine lv_isub hx hb dX6_next_151 ?_
        obtain ⟨h16, e, hf⟩ := ob hf
        refine q_putI e B hw fd_6_7.1 fd_6_7.2.1 fd_6_7.2.2.1 fd_6_7.2.2.2.1 fd_6_7.2.2.2.2 rfl rfl (tyX6_ok 7 (by decide)) tyX6 tyX6_ok nmX6 tw_1_112 dX6_next_152 (fun H locs hw => ?_)
        exact w_X6_next_155 G B hz hc0 hr hlk  n h16 v0 _ _ _ hw (lv_sub hl [1] rfl) hf
    · have hf := (if_neg c9).symm.trans hf
      refine lv_aload_n hx hb dX6_next_97 rfl (lv_at hl 1 rfl) ?_
      refine lv_iconst (v := 0) hx hb dX6_next_98 (by decide) ?_
      obtain ⟨h17, e, hf⟩ := ob hf
      refine q_putI e B hw fd_6_6.1 fd_6_6.2.1 fd_6_6.2.2.1 fd_6_6.2.2.2.1 fd_6_6.2.2.2.2 rfl rfl (tyX6_ok 6 (by decide)) tyX6 tyX6_ok nmX6 tw_1_111 dX6_next_99 (fun H locs hw => ?_)
      exact w_X6_next_102 G B hz hc0 hr hlk  n h17 v0 _ _ _ hw (lv_sub hl [1] rfl) hf
  · have hf := (if_neg c3).symm.trans hf
    refine lv_aload_n hx hb dX6_next_57 rfl (lv_at hl 0 rfl) ?_
    refine lv_aload_n hx hb dX6_next_58 rfl (lv_at hl 0 rfl) ?_
    obtain ⟨x18, e, hf⟩ := ob hf
    refine q_getI e B hw fd_6_4.1 fd_6_4.2.1 fd_6_4.2.2.1 fd_6_4.2.2.2.1 fd_6_4.2.2.2.2 rfl tw_1_109 dX6_next_59 ?_
    obtain ⟨h19, e, hf⟩ := ob hf
    refine q_putI e B hw fd_6_5.1 fd_6_5.2.1 fd_6_5.2.2.1 fd_6_5.2.2.2.1 fd_6_5.2.2.2.2 rfl rfl (tyX6_ok 5 (by decide)) tyX6 tyX6_ok nmX6 tw_1_110 dX6_next_62 (fun H locs hw => ?_)
    refine lv_aload_n hx hb dX6_next_65 rfl (lv_at hl 0 rfl) ?_
    refine lv_iconst (v := 3) hx hb dX6_next_66 (by decide) ?_
    obtain ⟨h20, e, hf⟩ := ob hf
    refine q_putI e B hw fd_6_6.1 fd_6_6.2.1 fd_6_6.2.2.1 fd_6_6.2.2.2.1 fd_6_6.2.2.2.2 rfl rfl (tyX6_ok 6 (by decide)) tyX6 tyX6_ok nmX6 tw_1_111 dX6_next_67 (fun H locs hw => ?_)
    obtain rfl := so hf
    exact q_vret B hw hz hc0 hr hlk dX6_next_70
set_option maxHeartbeats 4000000 in
theorem w_X6_next_8 {p : Program} {l : Launch} {e : Env} {s : State} {m : MethodId} {args : Array Value} {below : List Frame} {meth : Method} {c : Code} {s0 : State} {E : Ev} {z : Sh} {n : Nat} {h' : Hp} (G : Gl s0 E) (B : Bd p s0 s E m c cX6_next 2 RX6) (hz : s0.heap.size ≤ z.sz) (hc0 : s.heap.size + 0 = z.sz) (hr : meth.sig.returnType = none) (hlk : meth.locks = false) : ∀ (i : Nat), ∀ (h : Hp) (v0 : Nat) (H : Heap) (locs : List Loc) (ls : Array Slot), Pw s0 s E z h H locs → lv_has ls 2 [(0, .ref v0)] → f_X6_next_8 n z i h v0 = some h' → W p l e (rmO 4 91) s m args below meth c H locs 0 0 (Zt below s0 E z h' (none) args s 0 0) (F0 m 8 ls []) := by
  have hx := B.1
  have hb := B.2.1
  intro i
  induction i with
  | zero =>
    intro h v0 H locs ls hw hl hf
    have hf := (f_X6_next_8.eq_1 ..).symm.trans hf
    cases hf
  | succ i ih =>
    intro h v0 H locs ls hw hl hf
    have hf := (f_X6_next_8.eq_2 ..).symm.trans hf
    refine lv_aload_n hx hb dX6_next_8 rfl (lv_at hl 0 rfl) ?_
    obtain ⟨x1, e, hf⟩ := ob hf
    refine q_getI e B hw fd_6_4.1 fd_6_4.2.1 fd_6_4.2.2.1 fd_6_4.2.2.2.1 fd_6_4.2.2.2.2 rfl tw_1_109 dX6_next_9 ?_
    refine lv_aload_n hx hb dX6_next_12 rfl (lv_at hl 0 rfl) ?_
    obtain ⟨x2, e, hf⟩ := ob hf
    refine q_getI e B hw fd_6_3.1 fd_6_3.2.1 fd_6_3.2.2.1 fd_6_3.2.2.2.1 fd_6_3.2.2.2.2 rfl tw_1_108 dX6_next_13 ?_
    refine lv_icmp_ge (tgt := 46) hx hb dX6_next_16 (by decide) (fun c3 => ?_) (fun c3 => ?_)
    · have hf := (if_pos c3).symm.trans hf
      exact w_X6_next_46 G B hz hc0 hr hlk  h v0 _ _ _ hw (lv_sub hl [0] rfl) hf
    · have hf := (if_neg c3).symm.trans hf
      refine lv_aload_n hx hb dX6_next_19 rfl (lv_at hl 0 rfl) ?_
      refine lv_aload_n hx hb dX6_next_20 rfl (lv_at hl 0 rfl) ?_
      obtain ⟨x4, e, hf⟩ := ob hf
      refine q_getI e B hw fd_6_4.1 fd_6_4.2.1 fd_6_4.2.2.1 fd_6_4.2.2.2.1 fd_6_4.2.2.2.2 rfl tw_1_109 dX6_next_21 ?_
      obtain ⟨x5, e, hf⟩ := ob hf
      refine q_callV (As := [.int x4]) (rest := []) (st1 := [.int x5]) (c_X6_byteAt G e) B hw hz hc0 (k_X6_byteAt e) (by decide) (ci := 6) rfl rfl my_X6_byteAt mv_X6_byteAt tw_2_175 ⟨Nat.le_of_ble_eq_true rfl, Nat.le_of_ble_eq_true rfl⟩ ⟨Nat.zero_le _, Nat.zero_le _⟩ rfl hl.1 rfl rfl (Nat.le_of_ble_eq_true rfl) dX6_next_24 (fun H locs hw => ?_)
      obtain ⟨x6, e, hf⟩ := ob hf
      refine q_callS (As := [.int x5]) (rest := []) (st1 := [.int x6]) (c_X6_isBlank G e) B hw hz hc0 my_X6_isBlank mv_X6_isBlank tw_2_179 ⟨Nat.le_of_ble_eq_true rfl, Nat.le_of_ble_eq_true rfl⟩ ⟨Nat.zero_le _, Nat.zero_le _⟩ rfl hl.1 rfl rfl (Nat.le_of_ble_eq_true rfl) dX6_next_27 (fun H locs hw => ?_)
      refine lv_if_eq (tgt := 46) hx hb dX6_next_30 (by decide) (fun c7 => ?_) (fun c7 => ?_)
      · have hf := (if_pos c7).symm.trans hf
        exact w_X6_next_46 G B hz hc0 hr hlk  h v0 _ _ _ hw (lv_sub hl [0] rfl) hf
      · have hf := (if_neg c7).symm.trans hf
        refine lv_aload_n hx hb dX6_next_33 rfl (lv_at hl 0 rfl) ?_
        refine lv_dup hx hb dX6_next_34 rfl ?_
        obtain ⟨x8, e, hf⟩ := ob hf
        refine q_getI e B hw fd_6_4.1 fd_6_4.2.1 fd_6_4.2.2.1 fd_6_4.2.2.2.1 fd_6_4.2.2.2.2 rfl tw_1_109 dX6_next_35 ?_
        refine lv_iconst (v := 1) hx hb dX6_next_38 (by decide) ?_
        refine lv_iadd hx hb dX6_next_39 ?_
        obtain ⟨h9, e, hf⟩ := ob hf
        refine q_putI e B hw fd_6_4.1 fd_6_4.2.1 fd_6_4.2.2.1 fd_6_4.2.2.2.1 fd_6_4.2.2.2.2 rfl rfl (tyX6_ok 4 (by decide)) tyX6 tyX6_ok nmX6 tw_1_109 dX6_next_40 (fun H locs hw => ?_)
        refine lv_goto (tgt := 8) hx hb dX6_next_43 (by decide) ?_
        exact ih h9 v0 _ _ _ hw (lv_sub hl [0] rfl) hf
set_option maxHeartbeats 4000000 in
theorem c_X6_next {l : Launch} {s0 : State} {E : Ev} (G : Gl s0 E) {n : Nat} {z : Sh} {h : Hp} {v0 : Nat} {h' : Hp} (hf : f_X6_next n z h v0 = some h') : Ct l s0 E yX6_next cX6_next 2 none 4 91 [.ref v0] z h h' (none) := by
  refine Ct.of G (by decide) (Nat.le_of_ble_eq_true rfl) ?_
  intro p e s m below meth c ls B hw hz hc0 hr hlk hl
  have B : Bd p s0 s E m c cX6_next 2 RX6 := B
  have hx := B.1
  have hb := B.2.1
  have hl : lv_has ls 2 [(0, .ref v0)] := hl
  unfold f_X6_next at hf
  obtain ⟨_, hf⟩ := if_some hf
  refine lv_aload_n hx hb dX6_next_0 rfl (lv_at hl 0 rfl) ?_
  refine lv_aload_n hx hb dX6_next_1 rfl (lv_at hl 0 rfl) ?_
  obtain ⟨x1, e, hf⟩ := ob hf
  refine q_getI e B hw fd_6_5.1 fd_6_5.2.1 fd_6_5.2.2.1 fd_6_5.2.2.2.1 fd_6_5.2.2.2.2 rfl tw_1_110 dX6_next_2 ?_
  obtain ⟨h2, e, hf⟩ := ob hf
  refine q_putI e B hw fd_6_4.1 fd_6_4.2.1 fd_6_4.2.2.1 fd_6_4.2.2.2.1 fd_6_4.2.2.2.2 rfl rfl (tyX6_ok 4 (by decide)) tyX6 tyX6_ok nmX6 tw_1_109 dX6_next_5 (fun H locs hw => ?_)
  exact w_X6_next_8 G B hz hc0 hr hlk  n h2 v0 _ _ _ hw (lv_sub hl [0] rfl) hf
/-! SecondLife.season(II)I -/
def f_X11_season_11 (n : Nat) (z : Sh) (h : Hp) : Option (Int32 × Hp) :=
  (f_X11_refused z h 3).bind fun x1 =>
  some (x1, h)
def f_X11_season (n : Nat) (z : Sh) (h : Hp) (v0 : Nat) (v1 : Int32) (v2 : Int32) : Option (Int32 × Hp) :=
  if z.K v0 = 11 then
    if v2 < 1 then
      f_X11_season_11 n z h
    else
      if v2 ≤ 40 then
        (gR z h 11 v0 5).bind fun a3 =>
        (gR z h 11 v0 4).bind fun a4 =>
        (f_X5_copy z h a3 a4).bind fun h5 =>
        (gR z h5 11 v0 11).bind fun a6 =>
        (gR z h5 11 v0 3).bind fun a7 =>
        (gR z h5 11 v0 4).bind fun a8 =>
        (f_X2_doSeason n z h5 a6 a7 a8 v1 v2).bind fun (x9, h10) =>
        if x9 ≤ 0 then
          some (x9, h10)
        else
          (gR z h10 11 v0 6).bind fun a12 =>
          (gR z h10 11 v0 5).bind fun a13 =>
          (f_X4_keep z h10 a12 a13).bind fun h14 =>
          some (x9, h14)
      else
        f_X11_season_11 n z h
  else none
theorem k_X11_season {n : Nat} {z : Sh} {h : Hp} {v0 : Nat} {v1 : Int32} {v2 : Int32} {w : Int32 × Hp} (hf : f_X11_season n z h v0 v1 v2 = some w) : z.K v0 = 11 := by
  unfold f_X11_season at hf
  exact (if_some hf).1
set_option maxHeartbeats 4000000 in
theorem w_X11_season_11 {p : Program} {l : Launch} {e : Env} {s : State} {m : MethodId} {args : Array Value} {below : List Frame} {meth : Method} {c : Code} {s0 : State} {E : Ev} {z : Sh} {n : Nat} {r : Int32} {h' : Hp} (G : Gl s0 E) (B : Bd p s0 s E m c cX11_season 4 RX11) (hz : s0.heap.size ≤ z.sz) (hc0 : s.heap.size + 0 = z.sz) (hr : meth.sig.returnType = (some .int)) (hlk : meth.locks = false) : ∀ (h : Hp) (H : Heap) (locs : List Loc) (ls : Array Slot), Pw s0 s E z h H locs → lv_has ls 4 [] → f_X11_season_11 n z h = some (r, h') → W p l e (rmO 6 149) s m args below meth c H locs 0 0 (Zt below s0 E z h' (some (.int r)) args s 0 0) (F0 m 11 ls []) := by
  have hx := B.1
  have hb := B.2.1
  intro h H locs ls hw hl hf
  unfold f_X11_season_11 at hf
  refine lv_iconst (v := 3) hx hb dX11_season_11 (by decide) ?_
  obtain ⟨x1, e, hf⟩ := ob hf
  refine q_callS (As := [.int 3]) (rest := []) (st1 := [.int x1]) (c_X11_refused G e) B hw hz hc0 my_X11_refused mv_X11_refused tw_2_155 ⟨Nat.le_of_ble_eq_true rfl, Nat.le_of_ble_eq_true rfl⟩ ⟨Nat.zero_le _, Nat.zero_le _⟩ rfl hl.1 rfl rfl (Nat.le_of_ble_eq_true rfl) dX11_season_12 (fun H locs hw => ?_)
  obtain ⟨rfl, rfl⟩ := so2 hf
  exact q_iret B hw hz hc0 hr hlk dX11_season_15
set_option maxHeartbeats 4000000 in
theorem c_X11_season {l : Launch} {s0 : State} {E : Ev} (G : Gl s0 E) {n : Nat} {z : Sh} {h : Hp} {v0 : Nat} {v1 : Int32} {v2 : Int32} {r : Int32} {h' : Hp} (hf : f_X11_season n z h v0 v1 v2 = some (r, h')) : Ct l s0 E yX11_season cX11_season 4 (some .int) 6 149 [.ref v0, .int v1, .int v2] z h h' (some (.int r)) := by
  refine Ct.of G (by decide) (Nat.le_of_ble_eq_true rfl) ?_
  intro p e s m below meth c ls B hw hz hc0 hr hlk hl
  have B : Bd p s0 s E m c cX11_season 4 RX11 := B
  have hx := B.1
  have hb := B.2.1
  have hl : lv_has ls 4 [(0, .ref v0), (1, .int v1), (2, .int v2)] := hl
  unfold f_X11_season at hf
  obtain ⟨_, hf⟩ := if_some hf
  refine lv_iload_n hx hb dX11_season_0 rfl (lv_at hl 2 rfl) ?_
  refine lv_iconst (v := 1) hx hb dX11_season_1 (by decide) ?_
  refine lv_icmp_lt (tgt := 11) hx hb dX11_season_2 (by decide) (fun c1 => ?_) (fun c1 => ?_)
  · have hf := (if_pos c1).symm.trans hf
    exact w_X11_season_11 G B hz hc0 hr hlk  h _ _ _ hw (lv_sub hl [] rfl) hf
  · have hf := (if_neg c1).symm.trans hf
    refine lv_iload_n hx hb dX11_season_5 rfl (lv_at hl 2 rfl) ?_
    refine lv_bipush (v := 40) hx hb dX11_season_6 (by decide) ?_
    refine lv_icmp_le (tgt := 16) hx hb dX11_season_8 (by decide) (fun c2 => ?_) (fun c2 => ?_)
    · have hf := (if_pos c2).symm.trans hf
      refine lv_aload_n hx hb dX11_season_16 rfl (lv_at hl 0 rfl) ?_
      obtain ⟨a3, e, hf⟩ := ob hf
      refine q_getR e B hw fd_11_5.1 fd_11_5.2.1 fd_11_5.2.2.1 fd_11_5.2.2.2.1 fd_11_5.2.2.2.2 rfl tw_2_107 dX11_season_17 ?_
      refine lv_aload_n hx hb dX11_season_20 rfl (lv_at hl 0 rfl) ?_
      obtain ⟨a4, e, hf⟩ := ob hf
      refine q_getR e B hw fd_11_4.1 fd_11_4.2.1 fd_11_4.2.2.1 fd_11_4.2.2.2.1 fd_11_4.2.2.2.2 rfl tw_2_106 dX11_season_21 ?_
      obtain ⟨h5, e, hf⟩ := ob hf
      refine q_callVN (As := [.ref a4]) (rest := []) (st1 := []) (c_X5_copy G e) B hw hz hc0 (k_X5_copy e) (by decide) (ci := 5) rfl rfl my_X5_copy mv_X5_copy tw_4_25 ⟨Nat.le_of_ble_eq_true rfl, Nat.le_of_ble_eq_true rfl⟩ ⟨Nat.zero_le _, Nat.zero_le _⟩ rfl hl.1 rfl rfl (Nat.le_of_ble_eq_true rfl) dX11_season_24 (fun H locs hw => ?_)
      refine lv_aload_n hx hb dX11_season_27 rfl (lv_at hl 0 rfl) ?_
      obtain ⟨a6, e, hf⟩ := ob hf
      refine q_getR e B hw fd_11_11.1 fd_11_11.2.1 fd_11_11.2.2.1 fd_11_11.2.2.2.1 fd_11_11.2.2.2.2 rfl tw_2_113 dX11_season_28 ?_
      refine lv_aload_n hx hb dX11_season_31 rfl (lv_at hl 0 rfl) ?_
      obtain ⟨a7, e, hf⟩ := ob hf
      refine q_getR e B hw fd_11_3.1 fd_11_3.2.1 fd_11_3.2.2.1 fd_11_3.2.2.2.1 fd_11_3.2.2.2.2 rfl tw_2_105 dX11_season_32 ?_
      refine lv_aload_n hx hb dX11_season_35 rfl (lv_at hl 0 rfl) ?_
      obtain ⟨a8, e, hf⟩ := ob hf
      refine q_getR e B hw fd_11_4.1 fd_11_4.2.1 fd_11_4.2.2.1 fd_11_4.2.2.2.1 fd_11_4.2.2.2.2 rfl tw_2_106 dX11_season_36 ?_
      refine lv_iload_n hx hb dX11_season_39 rfl (lv_at hl 1 rfl) ?_
      refine lv_iload_n hx hb dX11_season_40 rfl (lv_at hl 2 rfl) ?_
      obtain ⟨⟨x9, h10⟩, e, hf⟩ := ob hf
      refine q_callVN (As := [.ref a7, .ref a8, .int v1, .int v2]) (rest := []) (st1 := [.int x9]) (c_X2_doSeason G e) B hw hz hc0 (k_X2_doSeason e) (by decide) (ci := 2) rfl rfl my_X2_doSeason mv_X2_doSeason tw_4_136 ⟨Nat.le_of_ble_eq_true rfl, Nat.le_of_ble_eq_true rfl⟩ ⟨Nat.zero_le _, Nat.zero_le _⟩ rfl hl.1 rfl rfl (Nat.le_of_ble_eq_true rfl) dX11_season_41 (fun H locs hw => ?_)
      refine lv_istore_n (lv' := [(3, .int x9), (0, .ref v0), (1, .int v1), (2, .int v2)]) hx hb dX11_season_44 rfl hl (by decide) rfl (fun ls hl => ?_)
      refine lv_iload_n hx hb dX11_season_45 rfl (lv_at hl 0 rfl) ?_
      refine lv_if_le (tgt := 60) hx hb dX11_season_46 (by decide) (fun c11 => ?_) (fun c11 => ?_)
      · have hf := (if_pos c11).symm.trans hf
        refine lv_iload_n hx hb dX11_season_60 rfl (lv_at hl 0 rfl) ?_
        obtain ⟨rfl, rfl⟩ := so2 hf
        exact q_iret B hw hz hc0 hr hlk dX11_season_61
      · have hf := (if_neg c11).symm.trans hf
        refine lv_aload_n hx hb dX11_season_49 rfl (lv_at hl 1 rfl) ?_
        obtain ⟨a12, e, hf⟩ := ob hf
        refine q_getR e B hw fd_11_6.1 fd_11_6.2.1 fd_11_6.2.2.1 fd_11_6.2.2.2.1 fd_11_6.2.2.2.2 rfl tw_2_108 dX11_season_50 ?_
        refine lv_aload_n hx hb dX11_season_53 rfl (lv_at hl 1 rfl) ?_
        obtain ⟨a13, e, hf⟩ := ob hf
        refine q_getR e B hw fd_11_5.1 fd_11_5.2.1 fd_11_5.2.2.1 fd_11_5.2.2.2.1 fd_11_5.2.2.2.2 rfl tw_2_107 dX11_season_54 ?_
        obtain ⟨h14, e, hf⟩ := ob hf
        refine q_callVN (As := [.ref a13]) (rest := []) (st1 := []) (c_X4_keep G e) B hw hz hc0 (k_X4_keep e) (by decide) (ci := 4) rfl rfl my_X4_keep mv_X4_keep tw_4_40 ⟨Nat.le_of_ble_eq_true rfl, Nat.le_of_ble_eq_true rfl⟩ ⟨Nat.zero_le _, Nat.zero_le _⟩ rfl hl.1 rfl rfl (Nat.le_of_ble_eq_true rfl) dX11_season_57 (fun H locs hw => ?_)
        refine lv_iload_n hx hb dX11_season_60 rfl (lv_at hl 0 rfl) ?_
        obtain ⟨rfl, rfl⟩ := so2 hf
        exact q_iret B hw hz hc0 hr hlk dX11_season_61
    · have hf := (if_neg c2).symm.trans hf
      exact w_X11_season_11 G B hz hc0 hr hlk  h _ _ _ hw (lv_sub hl [] rfl) hf
/-! SecondLife.best(I)I -/
def f_X11_best (n : Nat) (z : Sh) (h : Hp) (v0 : Nat) (v1 : Int32) : Option (Int32 × Hp × Sh) :=
  if z.K v0 = 11 then
    gd3 z <|
    (gR z h 11 v0 4).bind fun a1 =>
    (f_X5_has z h a1 v1).bind fun x2 =>
    if x2 = 0 then
      (f_X11_refused z h 2).bind fun x14 =>
      some (x14, h, z)
    else
      (gR z h 11 v0 12).bind fun a4 =>
      (gR z h 11 v0 3).bind fun a5 =>
      (gR z h 11 v0 4).bind fun a6 =>
      (f_X10_about n z h a4 a5 a6 v1).bind fun h7 =>
      (gR z h7 11 v0 13).bind fun a8 =>
      (gR z h7 11 v0 12).bind fun a9 =>
      (gI z h7 10 a9 8).bind fun x10 =>
      (f_X1_mostFrom n z h7 a8 x10).bind fun (x11, h12, z13) =>
      gd3 z13 <|
      some (x11, h12, z13)
  else none
theorem k_X11_best {n : Nat} {z : Sh} {h : Hp} {v0 : Nat} {v1 : Int32} {w : Int32 × Hp × Sh} (hf : f_X11_best n z h v0 v1 = some w) : z.K v0 = 11 := by
  unfold f_X11_best at hf
  exact (if_some hf).1
theorem mo_X11_best {n : Nat} {z : Sh} {h : Hp} {v0 : Nat} {v1 : Int32} {r : Int32} {h' : Hp} {zE : Sh} (hf : f_X11_best n z h v0 v1 = some (r, h', zE)) : z.sz ≤ zE.sz ∧ z.sl ≤ zE.sl := by
  unfold f_X11_best at hf
  exact (gd3_some (if_some hf).2).1
set_option maxHeartbeats 4000000 in
theorem c_X11_best {l : Launch} {s0 : State} {E : Ev} (G : Gl s0 E) {n : Nat} {z : Sh} {h : Hp} {v0 : Nat} {v1 : Int32} {r : Int32} {h' : Hp} {zE : Sh} (hf : f_X11_best n z h v0 v1 = some (r, h', zE)) : Ca l s0 E yX11_best cX11_best 2 (some .int) 27 1348 [.ref v0, .int v1] z zE h h' (some (.int r)) := by
  refine Ca.of G (by decide +kernel) (Nat.le_of_ble_eq_true rfl) (mo_X11_best hf) ?_
  intro p e s m below meth c ls B hw hM hr hlk hnm0 hl
  have B : Bd p s0 s E m c cX11_best 2 RX11 := B
  have hx := B.1
  have hb := B.2.1
  have hl : lv_has ls 2 [(0, .ref v0), (1, .int v1)] := hl
  unfold f_X11_best at hf
  obtain ⟨_, hf⟩ := if_some hf
  obtain ⟨_, hf⟩ := gd3_some hf
  refine lv_aload_n hx hb dX11_best_0 rfl (lv_at hl 0 rfl) ?_
  obtain ⟨a1, e, hf⟩ := ob hf
  refine q_getR e B hw fd_11_4.1 fd_11_4.2.1 fd_11_4.2.2.1 fd_11_4.2.2.2.1 fd_11_4.2.2.2.2 rfl tw_2_106 dX11_best_1 ?_
  refine lv_iload_n hx hb dX11_best_4 rfl (lv_at hl 1 rfl) ?_
  obtain ⟨x2, e, hf⟩ := ob hf
  refine q_callVN (As := [.int v1]) (rest := []) (st1 := [.int x2]) (c_X5_has G e) B hw hM.hz hM.hc0 (k_X5_has e) (by decide) (ci := 5) rfl rfl my_X5_has mv_X5_has tw_3_210 ⟨Nat.le_of_ble_eq_true rfl, Nat.le_of_ble_eq_true rfl⟩ hM.hcs rfl hl.1 rfl rfl (Nat.le_of_ble_eq_true rfl) dX11_best_5 (fun H locs hw => ?_)
  refine lv_if_ne (tgt := 16) hx hb dX11_best_8 (by decide) (fun c3 => ?_) (fun c3 => ?_)
  · have hf := (if_neg c3).symm.trans hf
    refine lv_aload_n hx hb dX11_best_16 rfl (lv_at hl 0 rfl) ?_
    obtain ⟨a4, e, hf⟩ := ob hf
    refine q_getR e B hw fd_11_12.1 fd_11_12.2.1 fd_11_12.2.2.1 fd_11_12.2.2.2.1 fd_11_12.2.2.2.2 rfl tw_2_114 dX11_best_17 ?_
    refine lv_aload_n hx hb dX11_best_20 rfl (lv_at hl 0 rfl) ?_
    obtain ⟨a5, e, hf⟩ := ob hf
    refine q_getR e B hw fd_11_3.1 fd_11_3.2.1 fd_11_3.2.2.1 fd_11_3.2.2.2.1 fd_11_3.2.2.2.2 rfl tw_2_105 dX11_best_21 ?_
    refine lv_aload_n hx hb dX11_best_24 rfl (lv_at hl 0 rfl) ?_
    obtain ⟨a6, e, hf⟩ := ob hf
    refine q_getR e B hw fd_11_4.1 fd_11_4.2.1 fd_11_4.2.2.1 fd_11_4.2.2.2.1 fd_11_4.2.2.2.2 rfl tw_2_106 dX11_best_25 ?_
    refine lv_iload_n hx hb dX11_best_28 rfl (lv_at hl 1 rfl) ?_
    obtain ⟨h7, e, hf⟩ := ob hf
    refine q_callVN (As := [.ref a5, .ref a6, .int v1]) (rest := []) (st1 := []) (c_X10_about G e) B hw hM.hz hM.hc0 (k_X10_about e) (by decide) (ci := 10) rfl rfl my_X10_about mv_X10_about tw_4_153 ⟨Nat.le_of_ble_eq_true rfl, Nat.le_of_ble_eq_true rfl⟩ hM.hcs rfl hl.1 rfl rfl (Nat.le_of_ble_eq_true rfl) dX11_best_29 (fun H locs hw => ?_)
    refine lv_aload_n hx hb dX11_best_32 rfl (lv_at hl 0 rfl) ?_
    obtain ⟨a8, e, hf⟩ := ob hf
    refine q_getR e B hw fd_11_13.1 fd_11_13.2.1 fd_11_13.2.2.1 fd_11_13.2.2.2.1 fd_11_13.2.2.2.2 rfl tw_2_115 dX11_best_33 ?_
    refine lv_aload_n hx hb dX11_best_36 rfl (lv_at hl 0 rfl) ?_
    obtain ⟨a9, e, hf⟩ := ob hf
    refine q_getR e B hw fd_11_12.1 fd_11_12.2.1 fd_11_12.2.2.1 fd_11_12.2.2.2.1 fd_11_12.2.2.2.2 rfl tw_2_114 dX11_best_37 ?_
    obtain ⟨x10, e, hf⟩ := ob hf
    refine q_getIN e B hw fd_10_8.1 fd_10_8.2.1 fd_10_8.2.2.1 fd_10_8.2.2.2.1 fd_10_8.2.2.2.2 rfl tw_2_3 dX11_best_40 ?_
    obtain ⟨⟨x11, h12, z13⟩, e, hf⟩ := ob hf
    obtain ⟨hg, hf⟩ := gd3_some hf
    refine q_callVNA (As := [.int x10]) (rest := []) (st1 := [.int x11]) (c_X1_mostFrom G e) (mo_X1_mostFrom e) hg B hw hM (k_X1_mostFrom e) (by decide) (ci := 1) rfl rfl my_X1_mostFrom mv_X1_mostFrom tw_4_162 ⟨Nat.le_of_ble_eq_true rfl, Nat.le_of_ble_eq_true rfl⟩ rfl hl.1 rfl rfl (Nat.le_of_ble_eq_true rfl) dX11_best_43 (fun H locs hw hM => ?_)
    obtain ⟨rfl, rfl, rfl⟩ := so3 hf
    exact q_iret B hw hM.hz hM.hc0 hr hlk dX11_best_46
  · have hf := (if_pos c3).symm.trans hf
    refine lv_iconst (v := 2) hx hb dX11_best_11 (by decide) ?_
    obtain ⟨x14, e, hf⟩ := ob hf
    refine q_callS (As := [.int 2]) (rest := []) (st1 := [.int x14]) (c_X11_refused G e) B hw hM.hz hM.hc0 my_X11_refused mv_X11_refused tw_2_155 ⟨Nat.le_of_ble_eq_true rfl, Nat.le_of_ble_eq_true rfl⟩ hM.hcs rfl hl.1 rfl rfl (Nat.le_of_ble_eq_true rfl) dX11_best_12 (fun H locs hw => ?_)
    obtain ⟨rfl, rfl, rfl⟩ := so3 hf
    exact q_iret B hw hM.hz hM.hc0 hr hlk dX11_best_15
/-! SecondLife.hope(III)J -/
def f_X11_hope_36 (n : Nat)  (z : Sh) (h : Hp) : Option (Int64 × Hp × Sh) :=
  (f_X11_refused z h 3).bind fun x1 =>
  some ((Int32.toInt64 x1), h, z)
def f_X11_hope_20 (n : Nat)  (z : Sh) (h : Hp) : Option (Int64 × Hp × Sh) :=
  (f_X11_refused z h 2).bind fun x1 =>
  some ((Int32.toInt64 x1), h, z)
def f_X11_hope (n : Nat) (z : Sh) (h : Hp) (v0 : Nat) (v1 : Int32) (v2 : Int32) (v3 : Int32) : Option (Int64 × Hp × Sh) :=
  if z.K v0 = 11 then
    gd3 z <|
    (gR z h 11 v0 4).bind fun a1 =>
    (f_X5_has z h a1 v1).bind fun x2 =>
    if x2 = 0 then
      f_X11_hope_20 n z h
    else
      if v3 < 0 then
        f_X11_hope_20 n z h
      else
        if v3 ≤ 1 then
          if v2 < 0 then
            f_X11_hope_36 n z h
          else
            if v2 ≤ 60 then
              (gR z h 11 v0 12).bind fun a8 =>
              (gR z h 11 v0 3).bind fun a9 =>
              (gR z h 11 v0 4).bind fun a10 =>
              (f_X10_about n z h a8 a9 a10 v1).bind fun h11 =>
              (gR z h11 11 v0 14).bind fun a12 =>
              (gR z h11 11 v0 14).bind fun a13 =>
              (f_X0_hopeNow n z h11 a13 v2).bind fun (x14, h15, z16) =>
              gd3 z16 <|
              (f_X0_fraction n z16 h15 a12 x14 v3).bind fun x17 =>
              some (x17, h15, z16)
            else
              f_X11_hope_36 n z h
        else
          f_X11_hope_20 n z h
  else none
theorem k_X11_hope {n : Nat} {z : Sh} {h : Hp} {v0 : Nat} {v1 : Int32} {v2 : Int32} {v3 : Int32} {w : Int64 × Hp × Sh} (hf : f_X11_hope n z h v0 v1 v2 v3 = some w) : z.K v0 = 11 := by
  unfold f_X11_hope at hf
  exact (if_some hf).1
theorem mo_X11_hope {n : Nat} {z : Sh} {h : Hp} {v0 : Nat} {v1 : Int32} {v2 : Int32} {v3 : Int32} {r : Int64} {h' : Hp} {zE : Sh} (hf : f_X11_hope n z h v0 v1 v2 v3 = some (r, h', zE)) : z.sz ≤ zE.sz ∧ z.sl ≤ zE.sl := by
  unfold f_X11_hope at hf
  exact (gd3_some (if_some hf).2).1
set_option maxHeartbeats 4000000 in
theorem w_X11_hope_36 {p : Program} {l : Launch} {e : Env} {s : State} {m : MethodId} {args : Array Value} {below : List Frame} {meth : Method} {c : Code} {s0 : State} {E : Ev} {z0 : Sh} {n : Nat} {r : Int64} {h' : Hp} {zE : Sh} (G : Gl s0 E) (B : Bd p s0 s E m c cX11_hope 4 RX11) (hr : meth.sig.returnType = (some .long)) (hlk : meth.locks = false) : ∀ (z : Sh) (h : Hp) (H : Heap) (locs : List Loc) (ls : Array Slot), Pw s0 s E z h H locs → Mo s0 s z0 z zE → lv_has ls 4 [] → f_X11_hope_36 n z h = some (r, h', zE) → W p l e (rmA 67 3748 z0 zE) s m args below meth c H locs (z.sz - z0.sz) (z.sl - z0.sl) (Zt below s0 E zE h' (some (.long r)) args s (zE.sz - z0.sz) (zE.sl - z0.sl)) (F0 m 36 ls []) := by
  have hx := B.1
  have hb := B.2.1
  intro z h H locs ls hw hM hl hf
  unfold f_X11_hope_36 at hf
  refine lv_iconst (v := 3) hx hb dX11_hope_36 (by decide) ?_
  obtain ⟨x1, e, hf⟩ := ob hf
  refine q_callS (As := [.int 3]) (rest := []) (st1 := [.int x1]) (c_X11_refused G e) B hw hM.hz hM.hc0 my_X11_refused mv_X11_refused tw_2_155 ⟨Nat.le_of_ble_eq_true rfl, Nat.le_of_ble_eq_true rfl⟩ hM.hcs rfl hl.1 rfl rfl (Nat.le_of_ble_eq_true rfl) dX11_hope_37 (fun H locs hw => ?_)
  refine lv_i2l (v := (Int32.toInt64 x1)) hx hb dX11_hope_40 rfl ?_
  obtain ⟨rfl, rfl, rfl⟩ := so3 hf
  exact q_lret B hw hM.hz hM.hc0 hr hlk dX11_hope_41
set_option maxHeartbeats 4000000 in
theorem w_X11_hope_20 {p : Program} {l : Launch} {e : Env} {s : State} {m : MethodId} {args : Array Value} {below : List Frame} {meth : Method} {c : Code} {s0 : State} {E : Ev} {z0 : Sh} {n : Nat} {r : Int64} {h' : Hp} {zE : Sh} (G : Gl s0 E) (B : Bd p s0 s E m c cX11_hope 4 RX11) (hr : meth.sig.returnType = (some .long)) (hlk : meth.locks = false) : ∀ (z : Sh) (h : Hp) (H : Heap) (locs : List Loc) (ls : Array Slot), Pw s0 s E z h H locs → Mo s0 s z0 z zE → lv_has ls 4 [] → f_X11_hope_20 n z h = some (r, h', zE) → W p l e (rmA 67 3748 z0 zE) s m args below meth c H locs (z.sz - z0.sz) (z.sl - z0.sl) (Zt below s0 E zE h' (some (.long r)) args s (zE.sz - z0.sz) (zE.sl - z0.sl)) (F0 m 20 ls []) := by
  have hx := B.1
  have hb := B.2.1
  intro z h H locs ls hw hM hl hf
  unfold f_X11_hope_20 at hf
  refine lv_iconst (v := 2) hx hb dX11_hope_20 (by decide) ?_
  obtain ⟨x1, e, hf⟩ := ob hf
  refine q_callS (As := [.int 2]) (rest := []) (st1 := [.int x1]) (c_X11_refused G e) B hw hM.hz hM.hc0 my_X11_refused mv_X11_refused tw_2_155 ⟨Nat.le_of_ble_eq_true rfl, Nat.le_of_ble_eq_true rfl⟩ hM.hcs rfl hl.1 rfl rfl (Nat.le_of_ble_eq_true rfl) dX11_hope_21 (fun H locs hw => ?_)
  refine lv_i2l (v := (Int32.toInt64 x1)) hx hb dX11_hope_24 rfl ?_
  obtain ⟨rfl, rfl, rfl⟩ := so3 hf
  exact q_lret B hw hM.hz hM.hc0 hr hlk dX11_hope_25
set_option maxHeartbeats 4000000 in
theorem c_X11_hope {l : Launch} {s0 : State} {E : Ev} (G : Gl s0 E) {n : Nat} {z : Sh} {h : Hp} {v0 : Nat} {v1 : Int32} {v2 : Int32} {v3 : Int32} {r : Int64} {h' : Hp} {zE : Sh} (hf : f_X11_hope n z h v0 v1 v2 v3 = some (r, h', zE)) : Ca l s0 E yX11_hope cX11_hope 4 (some .long) 67 3748 [.ref v0, .int v1, .int v2, .int v3] z zE h h' (some (.long r)) := by
  refine Ca.of G (by decide +kernel) (Nat.le_of_ble_eq_true rfl) (mo_X11_hope hf) ?_
  intro p e s m below meth c ls B hw hM hr hlk hnm0 hl
  have B : Bd p s0 s E m c cX11_hope 4 RX11 := B
  have hx := B.1
  have hb := B.2.1
  have hl : lv_has ls 4 [(0, .ref v0), (1, .int v1), (2, .int v2), (3, .int v3)] := hl
  unfold f_X11_hope at hf
  obtain ⟨_, hf⟩ := if_some hf
  obtain ⟨_, hf⟩ := gd3_some hf
  refine lv_aload_n hx hb dX11_hope_0 rfl (lv_at hl 0 rfl) ?_
  obtain ⟨a1, e, hf⟩ := ob hf
  refine q_getR e B hw fd_11_4.1 fd_11_4.2.1 fd_11_4.2.2.1 fd_11_4.2.2.2.1 fd_11_4.2.2.2.2 rfl tw_2_106 dX11_hope_1 ?_
  refine lv_iload_n hx hb dX11_hope_4 rfl (lv_at hl 1 rfl) ?_
  obtain ⟨x2, e, hf⟩ := ob hf
  refine q_callVN (As := [.int v1]) (rest := []) (st1 := [.int x2]) (c_X5_has G e) B hw hM.hz hM.hc0 (k_X5_has e) (by decide) (ci := 5) rfl rfl my_X5_has mv_X5_has tw_3_210 ⟨Nat.le_of_ble_eq_true rfl, Nat.le_of_ble_eq_true rfl⟩ hM.hcs rfl hl.1 rfl rfl (Nat.le_of_ble_eq_true rfl) dX11_hope_5 (fun H locs hw => ?_)
  refine lv_if_eq (tgt := 20) hx hb dX11_hope_8 (by decide) (fun c3 => ?_) (fun c3 => ?_)
  · have hf := (if_pos c3).symm.trans hf
    exact w_X11_hope_20 G B hr hlk  z h _ _ _ hw hM (lv_sub hl [] rfl) hf
  · have hf := (if_neg c3).symm.trans hf
    refine lv_iload_n hx hb dX11_hope_11 rfl (lv_at hl 3 rfl) ?_
    refine lv_if_lt (tgt := 20) hx hb dX11_hope_12 (by decide) (fun c4 => ?_) (fun c4 => ?_)
    · have hf := (if_pos c4).symm.trans hf
      exact w_X11_hope_20 G B hr hlk  z h _ _ _ hw hM (lv_sub hl [] rfl) hf
    · have hf := (if_neg c4).symm.trans hf
      refine lv_iload_n hx hb dX11_hope_15 rfl (lv_at hl 3 rfl) ?_
      refine lv_iconst (v := 1) hx hb dX11_hope_16 (by decide) ?_
      refine lv_icmp_le (tgt := 26) hx hb dX11_hope_17 (by decide) (fun c5 => ?_) (fun c5 => ?_)
      · have hf := (if_pos c5).symm.trans hf
        refine lv_iload_n hx hb dX11_hope_26 rfl (lv_at hl 2 rfl) ?_
        refine lv_if_lt (tgt := 36) hx hb dX11_hope_27 (by decide) (fun c6 => ?_) (fun c6 => ?_)
        · have hf := (if_pos c6).symm.trans hf
          exact w_X11_hope_36 G B hr hlk  z h _ _ _ hw hM (lv_sub hl [] rfl) hf
        · have hf := (if_neg c6).symm.trans hf
          refine lv_iload_n hx hb dX11_hope_30 rfl (lv_at hl 2 rfl) ?_
          refine lv_bipush (v := 60) hx hb dX11_hope_31 (by decide) ?_
          refine lv_icmp_le (tgt := 42) hx hb dX11_hope_33 (by decide) (fun c7 => ?_) (fun c7 => ?_)
          · have hf := (if_pos c7).symm.trans hf
            refine lv_aload_n hx hb dX11_hope_42 rfl (lv_at hl 0 rfl) ?_
            obtain ⟨a8, e, hf⟩ := ob hf
            refine q_getR e B hw fd_11_12.1 fd_11_12.2.1 fd_11_12.2.2.1 fd_11_12.2.2.2.1 fd_11_12.2.2.2.2 rfl tw_2_114 dX11_hope_43 ?_
            refine lv_aload_n hx hb dX11_hope_46 rfl (lv_at hl 0 rfl) ?_
            obtain ⟨a9, e, hf⟩ := ob hf
            refine q_getR e B hw fd_11_3.1 fd_11_3.2.1 fd_11_3.2.2.1 fd_11_3.2.2.2.1 fd_11_3.2.2.2.2 rfl tw_2_105 dX11_hope_47 ?_
            refine lv_aload_n hx hb dX11_hope_50 rfl (lv_at hl 0 rfl) ?_
            obtain ⟨a10, e, hf⟩ := ob hf
            refine q_getR e B hw fd_11_4.1 fd_11_4.2.1 fd_11_4.2.2.1 fd_11_4.2.2.2.1 fd_11_4.2.2.2.2 rfl tw_2_106 dX11_hope_51 ?_
            refine lv_iload_n hx hb dX11_hope_54 rfl (lv_at hl 1 rfl) ?_
            obtain ⟨h11, e, hf⟩ := ob hf
            refine q_callVN (As := [.ref a9, .ref a10, .int v1]) (rest := []) (st1 := []) (c_X10_about G e) B hw hM.hz hM.hc0 (k_X10_about e) (by decide) (ci := 10) rfl rfl my_X10_about mv_X10_about tw_4_153 ⟨Nat.le_of_ble_eq_true rfl, Nat.le_of_ble_eq_true rfl⟩ hM.hcs rfl hl.1 rfl rfl (Nat.le_of_ble_eq_true rfl) dX11_hope_55 (fun H locs hw => ?_)
            refine lv_aload_n hx hb dX11_hope_58 rfl (lv_at hl 0 rfl) ?_
            obtain ⟨a12, e, hf⟩ := ob hf
            refine q_getR e B hw fd_11_14.1 fd_11_14.2.1 fd_11_14.2.2.1 fd_11_14.2.2.2.1 fd_11_14.2.2.2.2 rfl tw_2_116 dX11_hope_59 ?_
            refine lv_aload_n hx hb dX11_hope_62 rfl (lv_at hl 0 rfl) ?_
            obtain ⟨a13, e, hf⟩ := ob hf
            refine q_getR e B hw fd_11_14.1 fd_11_14.2.1 fd_11_14.2.2.1 fd_11_14.2.2.2.1 fd_11_14.2.2.2.2 rfl tw_2_116 dX11_hope_63 ?_
            refine lv_iload_n hx hb dX11_hope_66 rfl (lv_at hl 2 rfl) ?_
            obtain ⟨⟨x14, h15, z16⟩, e, hf⟩ := ob hf
            obtain ⟨hg, hf⟩ := gd3_some hf
            refine q_callVNA (As := [.int v2]) (rest := [.ref a12]) (st1 := [.long x14, .ref a12]) (c_X0_hopeNow G e) (mo_X0_hopeNow e) hg B hw hM (k_X0_hopeNow e) (by decide) (ci := 0) rfl rfl my_X0_hopeNow mv_X0_hopeNow tw_5_107 ⟨Nat.le_of_ble_eq_true rfl, Nat.le_of_ble_eq_true rfl⟩ rfl hl.1 rfl rfl (Nat.le_of_ble_eq_true rfl) dX11_hope_67 (fun H locs hw hM => ?_)
            refine lv_iload_n hx hb dX11_hope_70 rfl (lv_at hl 3 rfl) ?_
            obtain ⟨x17, e, hf⟩ := ob hf
            refine q_callVN (As := [.long x14, .int v3]) (rest := []) (st1 := [.long x17]) (c_X0_fraction G e) B hw hM.hz hM.hc0 (k_X0_fraction e) (by decide) (ci := 0) rfl rfl my_X0_fraction mv_X0_fraction tw_5_80 ⟨Nat.le_of_ble_eq_true rfl, Nat.le_of_ble_eq_true rfl⟩ hM.hcs rfl hl.1 rfl rfl (Nat.le_of_ble_eq_true rfl) dX11_hope_71 (fun H locs hw => ?_)
            obtain ⟨rfl, rfl, rfl⟩ := so3 hf
            exact q_lret B hw hM.hz hM.hc0 hr hlk dX11_hope_74
          · have hf := (if_neg c7).symm.trans hf
            exact w_X11_hope_36 G B hr hlk  z h _ _ _ hw hM (lv_sub hl [] rfl) hf
      · have hf := (if_neg c5).symm.trans hf
        exact w_X11_hope_20 G B hr hlk  z h _ _ _ hw hM (lv_sub hl [] rfl) hf
