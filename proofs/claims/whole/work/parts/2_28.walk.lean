/-! SecondLifeModel.next()V -/
def f_X12_next_288 (n : Nat) (z : Sh) (k254 : Hp → Nat → Int32 → Option (Hp)) (h : Hp) (v0 : Nat) (v1 : Int32) : Option (Hp) :=
  (some (v1 + 1)).bind fun x1 =>
  k254 h v0 x1
def f_X12_next_254 (n : Nat) (z : Sh) : Nat → Hp → Nat → Int32 → Option (Hp)
  | 0, _, _, _ => none
  | i + 1, h, v0, v1 =>
    (f_J0_length_8abf5 z h (z.st 47)).bind fun x1 =>
    if x1 ≤ v1 then
      some h
    else
      (gI z h 12 v0 6).bind fun x3 =>
      (f_X12_see z h v0 x3).bind fun x4 =>
      (f_J0_charAt_5068e z h (z.st 47) v1).bind fun x5 =>
      if x4 = x5 then
        (pI z h 12 v0 9 (30 + v1)).bind fun h7 =>
        f_X12_next_288 n z (f_X12_next_254 n z i) h7 v0 v1
      else
        f_X12_next_288 n z (f_X12_next_254 n z i) h v0 v1
def f_X12_next_196 (n : Nat) (z : Sh) (k146 : Hp → Nat → Option (Hp)) (h : Hp) (v0 : Nat) : Option (Hp) :=
  (gI z h 12 v0 7).bind fun x1 =>
  (pI z h 12 v0 7 (x1 + 1)).bind fun h2 =>
  k146 h2 v0
def f_X12_next_146 (n : Nat) (z : Sh) : Nat → Hp → Nat → Option (Hp)
  | 0, _, _ => none
  | i + 1, h, v0 =>
    (gI z h 12 v0 7).bind fun x1 =>
    (f_X12_see z h v0 x1).bind fun x2 =>
    (f_X12_isDigit z h x2).bind fun x3 =>
    if x3 = 0 then
      (gI z h 12 v0 7).bind fun x5 =>
      (gI z h 12 v0 6).bind fun x6 =>
      if (x5 - x6) ≤ 3 then
        (pI z h 12 v0 9 24).bind fun h8 =>
        some h8
      else
        (pI z h 12 v0 9 26).bind fun h9 =>
        some h9
    else
      (gI z h 12 v0 7).bind fun x10 =>
      (gI z h 12 v0 6).bind fun x11 =>
      if 3 ≤ (x10 - x11) then
        f_X12_next_196 n z (f_X12_next_146 n z i) h v0
      else
        (gI z h 12 v0 10).bind fun x13 =>
        (gI z h 12 v0 7).bind fun x14 =>
        (f_X12_see z h v0 x14).bind fun x15 =>
        (pI z h 12 v0 10 (((10 * x13) + x15) - 48)).bind fun h16 =>
        f_X12_next_196 n z (f_X12_next_146 n z i) h16 v0
def f_X12_next_89 (n : Nat) (z : Sh) : Nat → Hp → Nat → Option (Hp)
  | 0, _, _ => none
  | i + 1, h, v0 =>
    (gI z h 12 v0 7).bind fun x1 =>
    (f_X12_see z h v0 x1).bind fun x2 =>
    (f_X12_isSmall z h x2).bind fun x3 =>
    if x3 = 0 then
      (f_X12_keyAt n z h v0).bind fun x5 =>
      (pI z h 12 v0 9 x5).bind fun h6 =>
      some h6
    else
      (gI z h 12 v0 7).bind fun x7 =>
      (pI z h 12 v0 7 (x7 + 1)).bind fun h8 =>
      (f_X12_next_89 n z i) h8 v0
def f_X12_next_34 (n : Nat) (z : Sh) (k8 : Hp → Nat → Option (Hp)) (h : Hp) (v0 : Nat) : Option (Hp) :=
  (gI z h 12 v0 6).bind fun x1 =>
  (pI z h 12 v0 6 (x1 + 1)).bind fun h2 =>
  k8 h2 v0
def f_X12_next_8 (n : Nat) (z : Sh) : Nat → Hp → Nat → Option (Hp)
  | 0, _, _ => none
  | i + 1, h, v0 =>
    (gI z h 12 v0 6).bind fun x1 =>
    (f_X12_see z h v0 x1).bind fun x2 =>
    if x2 = 10 then
      f_X12_next_34 n z (f_X12_next_8 n z i) h v0
    else
      (gI z h 12 v0 6).bind fun x4 =>
      (f_X12_see z h v0 x4).bind fun x5 =>
      if x5 = 32 then
        f_X12_next_34 n z (f_X12_next_8 n z i) h v0
      else
        (gI z h 12 v0 6).bind fun x7 =>
        (pI z h 12 v0 7 x7).bind fun h8 =>
        (gI z h8 12 v0 6).bind fun x9 =>
        (gI z h8 12 v0 8).bind fun x10 =>
        if x9 < x10 then
          (gI z h8 12 v0 6).bind fun x12 =>
          (f_X12_see z h8 v0 x12).bind fun x13 =>
          (f_X12_isSmall z h8 x13).bind fun x14 =>
          if x14 = 0 then
            (gI z h8 12 v0 6).bind fun x16 =>
            (f_X12_see z h8 v0 x16).bind fun x17 =>
            (f_X12_isDigit z h8 x17).bind fun x18 =>
            if x18 = 0 then
              (gI z h8 12 v0 7).bind fun x20 =>
              (pI z h8 12 v0 7 (x20 + 1)).bind fun h21 =>
              (pI z h21 12 v0 9 26).bind fun h22 =>
              f_X12_next_254 n z n h22 v0 0
            else
              (pI z h8 12 v0 10 0).bind fun h23 =>
              f_X12_next_146 n z n h23 v0
          else
            f_X12_next_89 n z n h8 v0
        else
          (pI z h8 12 v0 9 25).bind fun h24 =>
          some h24
def f_X12_next (n : Nat) (z : Sh) (h : Hp) (v0 : Nat) : Option (Hp) :=
  if z.K v0 = 12 then
    (gI z h 12 v0 7).bind fun x1 =>
    (pI z h 12 v0 6 x1).bind fun h2 =>
    f_X12_next_8 n z n h2 v0
  else none
theorem k_X12_next {n : Nat} {z : Sh} {h : Hp} {v0 : Nat} {w : Hp} (hf : f_X12_next n z h v0 = some w) : z.K v0 = 12 := by
  unfold f_X12_next at hf
  exact (if_some hf).1
set_option maxHeartbeats 4000000 in
theorem w_X12_next_288 {p : Program} {l : Launch} {e : Env} {s : State} {m : MethodId} {args : Array Value} {below : List Frame} {meth : Method} {c : Code} {s0 : State} {E : Ev} {z : Sh} {n : Nat} {k254 : Hp → Nat → Int32 → Option (Hp)} {h' : Hp} (G : Gl s0 E) (B : Bd p s0 s E m c cX12_next 2 RX12) (hz : s0.heap.size ≤ z.sz) (hc0 : s.heap.size + 0 = z.sz) (hr : meth.sig.returnType = none) (hlk : meth.locks = false) (hk254 : ∀ (h : Hp) (v0 : Nat) (v1 : Int32) (H : Heap) (locs : List Loc) (ls : Array Slot), Pw s0 s E z h H locs → lv_has ls 2 [(0, .ref v0), (1, .int v1)] → k254 h v0 v1 = some h' → W p l e (rmO 5 108) s m args below meth c H locs 0 0 (Zt below s0 E z h' (none) args s 0 0) (F0 m 254 ls [])) : ∀ (h : Hp) (v0 : Nat) (v1 : Int32) (H : Heap) (locs : List Loc) (ls : Array Slot), Pw s0 s E z h H locs → lv_has ls 2 [(0, .ref v0), (1, .int v1)] → f_X12_next_288 n z k254 h v0 v1 = some h' → W p l e (rmO 5 108) s m args below meth c H locs 0 0 (Zt below s0 E z h' (none) args s 0 0) (F0 m 288 ls []) := by
  have hx := B.1
  have hb := B.2.1
  intro h v0 v1 H locs ls hw hl hf
  unfold f_X12_next_288 at hf
  obtain ⟨x1, e, hf⟩ := ob hf
  refine lv_iinc (v := x1) (lv' := [(1, .int x1), (0, .ref v0)]) hx hb dX12_next_288 hl (k := 1) rfl (Option.some.inj e) (by decide) rfl (fun ls hl => ?_)
  refine lv_goto (tgt := 254) hx hb dX12_next_291 (by decide) ?_
  exact hk254 h v0 x1 _ _ _ hw (lv_sub hl [1, 0] rfl) hf
set_option maxHeartbeats 4000000 in
theorem w_X12_next_254 {p : Program} {l : Launch} {e : Env} {s : State} {m : MethodId} {args : Array Value} {below : List Frame} {meth : Method} {c : Code} {s0 : State} {E : Ev} {z : Sh} {n : Nat} {h' : Hp} (G : Gl s0 E) (B : Bd p s0 s E m c cX12_next 2 RX12) (hz : s0.heap.size ≤ z.sz) (hc0 : s.heap.size + 0 = z.sz) (hr : meth.sig.returnType = none) (hlk : meth.locks = false) : ∀ (i : Nat), ∀ (h : Hp) (v0 : Nat) (v1 : Int32) (H : Heap) (locs : List Loc) (ls : Array Slot), Pw s0 s E z h H locs → lv_has ls 2 [(0, .ref v0), (1, .int v1)] → f_X12_next_254 n z i h v0 v1 = some h' → W p l e (rmO 5 108) s m args below meth c H locs 0 0 (Zt below s0 E z h' (none) args s 0 0) (F0 m 254 ls []) := by
  have hx := B.1
  have hb := B.2.1
  intro i
  induction i with
  | zero =>
    intro h v0 v1 H locs ls hw hl hf
    have hf := (f_X12_next_254.eq_1 ..).symm.trans hf
    cases hf
  | succ i ih =>
    intro h v0 v1 H locs ls hw hl hf
    have hf := (f_X12_next_254.eq_2 ..).symm.trans hf
    refine lv_iload_n hx hb dX12_next_254 rfl (lv_at hl 1 rfl) ?_
    refine q_ldcS (tx := ";:+-*()[]=<>") G (i := 47) (List.mem_of_getElem? (i := 37) (by decide +kernel)) B hw dX12_next_255 ?_
    obtain ⟨x1, e, hf⟩ := ob hf
    refine q_callVS (As := []) (rest := [.int v1]) (st1 := [.int x1, .int v1]) (c_J0_length_8abf5 G e) B hw hz hc0 (k_J0_length_8abf5 e) rfl my_J0_length_8abf5 mv_J0_length_8abf5 tw_6_182 ⟨Nat.le_of_ble_eq_true rfl, Nat.le_of_ble_eq_true rfl⟩ ⟨Nat.zero_le _, Nat.zero_le _⟩ rfl hl.1 rfl rfl (Nat.le_of_ble_eq_true rfl) dX12_next_257 (fun H locs hw => ?_)
    refine lv_icmp_ge (tgt := 294) hx hb dX12_next_260 (by decide) (fun c2 => ?_) (fun c2 => ?_)
    · have hf := (if_pos c2).symm.trans hf
      obtain rfl := so hf
      exact q_vret B hw hz hc0 hr hlk dX12_next_294
    · have hf := (if_neg c2).symm.trans hf
      refine lv_aload_n hx hb dX12_next_263 rfl (lv_at hl 0 rfl) ?_
      refine lv_aload_n hx hb dX12_next_264 rfl (lv_at hl 0 rfl) ?_
      obtain ⟨x3, e, hf⟩ := ob hf
      refine q_getI e B hw fd_12_6.1 fd_12_6.2.1 fd_12_6.2.2.1 fd_12_6.2.2.2.1 fd_12_6.2.2.2.2 rfl tw_6_49 dX12_next_265 ?_
      obtain ⟨x4, e, hf⟩ := ob hf
      refine q_callV (As := [.int x3]) (rest := []) (st1 := [.int x4]) (c_X12_see G e) B hw hz hc0 (k_X12_see e) (by decide) (ci := 12) rfl rfl my_X12_see mv_X12_see tw_6_170 ⟨Nat.le_of_ble_eq_true rfl, Nat.le_of_ble_eq_true rfl⟩ ⟨Nat.zero_le _, Nat.zero_le _⟩ rfl hl.1 rfl rfl (Nat.le_of_ble_eq_true rfl) dX12_next_268 (fun H locs hw => ?_)
      refine q_ldcS (tx := ";:+-*()[]=<>") G (i := 47) (List.mem_of_getElem? (i := 37) (by decide +kernel)) B hw dX12_next_271 ?_
      refine lv_iload_n hx hb dX12_next_273 rfl (lv_at hl 1 rfl) ?_
      obtain ⟨x5, e, hf⟩ := ob hf
      refine q_callVS (As := [.int v1]) (rest := [.int x4]) (st1 := [.int x5, .int x4]) (c_J0_charAt_5068e G e) B hw hz hc0 (k_J0_charAt_5068e e) rfl my_J0_charAt_5068e mv_J0_charAt_5068e tw_6_183 ⟨Nat.le_of_ble_eq_true rfl, Nat.le_of_ble_eq_true rfl⟩ ⟨Nat.zero_le _, Nat.zero_le _⟩ rfl hl.1 rfl rfl (Nat.le_of_ble_eq_true rfl) dX12_next_274 (fun H locs hw => ?_)
      refine lv_icmp_ne (tgt := 288) hx hb dX12_next_277 (by decide) (fun c6 => ?_) (fun c6 => ?_)
      · have hf := (if_neg c6).symm.trans hf
        exact w_X12_next_288 G B hz hc0 hr hlk ih h v0 v1 _ _ _ hw (lv_sub hl [0, 1] rfl) hf
      · have hf := (if_pos c6).symm.trans hf
        refine lv_aload_n hx hb dX12_next_280 rfl (lv_at hl 0 rfl) ?_
        refine lv_bipush (v := 30) hx hb dX12_next_281 (by decide) ?_
        refine lv_iload_n hx hb dX12_next_283 rfl (lv_at hl 1 rfl) ?_
        refine lv_iadd hx hb dX12_next_284 ?_
        obtain ⟨h7, e, hf⟩ := ob hf
        refine q_putI e B hw fd_12_9.1 fd_12_9.2.1 fd_12_9.2.2.1 fd_12_9.2.2.2.1 fd_12_9.2.2.2.2 rfl rfl (tyX12_ok 9 (by decide)) tyX12 tyX12_ok nmX12 tw_6_52 dX12_next_285 (fun H locs hw => ?_)
        exact w_X12_next_288 G B hz hc0 hr hlk ih h7 v0 v1 _ _ _ hw (lv_sub hl [0, 1] rfl) hf
set_option maxHeartbeats 4000000 in
theorem w_X12_next_196 {p : Program} {l : Launch} {e : Env} {s : State} {m : MethodId} {args : Array Value} {below : List Frame} {meth : Method} {c : Code} {s0 : State} {E : Ev} {z : Sh} {n : Nat} {k146 : Hp → Nat → Option (Hp)} {h' : Hp} (G : Gl s0 E) (B : Bd p s0 s E m c cX12_next 2 RX12) (hz : s0.heap.size ≤ z.sz) (hc0 : s.heap.size + 0 = z.sz) (hr : meth.sig.returnType = none) (hlk : meth.locks = false) (hk146 : ∀ (h : Hp) (v0 : Nat) (H : Heap) (locs : List Loc) (ls : Array Slot), Pw s0 s E z h H locs → lv_has ls 2 [(0, .ref v0)] → k146 h v0 = some h' → W p l e (rmO 5 108) s m args below meth c H locs 0 0 (Zt below s0 E z h' (none) args s 0 0) (F0 m 146 ls [])) : ∀ (h : Hp) (v0 : Nat) (H : Heap) (locs : List Loc) (ls : Array Slot), Pw s0 s E z h H locs → lv_has ls 2 [(0, .ref v0)] → f_X12_next_196 n z k146 h v0 = some h' → W p l e (rmO 5 108) s m args below meth c H locs 0 0 (Zt below s0 E z h' (none) args s 0 0) (F0 m 196 ls []) := by
  have hx := B.1
  have hb := B.2.1
  intro h v0 H locs ls hw hl hf
  unfold f_X12_next_196 at hf
  refine lv_aload_n hx hb dX12_next_196 rfl (lv_at hl 0 rfl) ?_
  refine lv_dup hx hb dX12_next_197 rfl ?_
  obtain ⟨x1, e, hf⟩ := ob hf
  refine q_getI e B hw fd_12_7.1 fd_12_7.2.1 fd_12_7.2.2.1 fd_12_7.2.2.2.1 fd_12_7.2.2.2.2 rfl tw_6_50 dX12_next_198 ?_
  refine lv_iconst (v := 1) hx hb dX12_next_201 (by decide) ?_
  refine lv_iadd hx hb dX12_next_202 ?_
  obtain ⟨h2, e, hf⟩ := ob hf
  refine q_putI e B hw fd_12_7.1 fd_12_7.2.1 fd_12_7.2.2.1 fd_12_7.2.2.2.1 fd_12_7.2.2.2.2 rfl rfl (tyX12_ok 7 (by decide)) tyX12 tyX12_ok nmX12 tw_6_50 dX12_next_203 (fun H locs hw => ?_)
  refine lv_goto (tgt := 146) hx hb dX12_next_206 (by decide) ?_
  exact hk146 h2 v0 _ _ _ hw (lv_sub hl [0] rfl) hf
set_option maxHeartbeats 4000000 in
theorem w_X12_next_146 {p : Program} {l : Launch} {e : Env} {s : State} {m : MethodId} {args : Array Value} {below : List Frame} {meth : Method} {c : Code} {s0 : State} {E : Ev} {z : Sh} {n : Nat} {h' : Hp} (G : Gl s0 E) (B : Bd p s0 s E m c cX12_next 2 RX12) (hz : s0.heap.size ≤ z.sz) (hc0 : s.heap.size + 0 = z.sz) (hr : meth.sig.returnType = none) (hlk : meth.locks = false) : ∀ (i : Nat), ∀ (h : Hp) (v0 : Nat) (H : Heap) (locs : List Loc) (ls : Array Slot), Pw s0 s E z h H locs → lv_has ls 2 [(0, .ref v0)] → f_X12_next_146 n z i h v0 = some h' → W p l e (rmO 5 108) s m args below meth c H locs 0 0 (Zt below s0 E z h' (none) args s 0 0) (F0 m 146 ls []) := by
  have hx := B.1
  have hb := B.2.1
  intro i
  induction i with
  | zero =>
    intro h v0 H locs ls hw hl hf
    have hf := (f_X12_next_146.eq_1 ..).symm.trans hf
    cases hf
  | succ i ih =>
    intro h v0 H locs ls hw hl hf
    have hf := (f_X12_next_146.eq_2 ..).symm.trans hf
    refine lv_aload_n hx hb dX12_next_146 rfl (lv_at hl 0 rfl) ?_
    refine lv_aload_n hx hb dX12_next_147 rfl (lv_at hl 0 rfl) ?_
    obtain ⟨x1, e, hf⟩ := ob hf
    refine q_getI e B hw fd_12_7.1 fd_12_7.2.1 fd_12_7.2.2.1 fd_12_7.2.2.2.1 fd_12_7.2.2.2.2 rfl tw_6_50 dX12_next_148 ?_
    obtain ⟨x2, e, hf⟩ := ob hf
    refine q_callV (As := [.int x1]) (rest := []) (st1 := [.int x2]) (c_X12_see G e) B hw hz hc0 (k_X12_see e) (by decide) (ci := 12) rfl rfl my_X12_see mv_X12_see tw_6_170 ⟨Nat.le_of_ble_eq_true rfl, Nat.le_of_ble_eq_true rfl⟩ ⟨Nat.zero_le _, Nat.zero_le _⟩ rfl hl.1 rfl rfl (Nat.le_of_ble_eq_true rfl) dX12_next_151 (fun H locs hw => ?_)
    obtain ⟨x3, e, hf⟩ := ob hf
    refine q_callS (As := [.int x2]) (rest := []) (st1 := [.int x3]) (c_X12_isDigit G e) B hw hz hc0 my_X12_isDigit mv_X12_isDigit tw_6_184 ⟨Nat.le_of_ble_eq_true rfl, Nat.le_of_ble_eq_true rfl⟩ ⟨Nat.zero_le _, Nat.zero_le _⟩ rfl hl.1 rfl rfl (Nat.le_of_ble_eq_true rfl) dX12_next_154 (fun H locs hw => ?_)
    refine lv_if_eq (tgt := 209) hx hb dX12_next_157 (by decide) (fun c4 => ?_) (fun c4 => ?_)
    · have hf := (if_pos c4).symm.trans hf
      refine lv_aload_n hx hb dX12_next_209 rfl (lv_at hl 0 rfl) ?_
      refine lv_aload_n hx hb dX12_next_210 rfl (lv_at hl 0 rfl) ?_
      obtain ⟨x5, e, hf⟩ := ob hf
      refine q_getI e B hw fd_12_7.1 fd_12_7.2.1 fd_12_7.2.2.1 fd_12_7.2.2.2.1 fd_12_7.2.2.2.2 rfl tw_6_50 dX12_next_211 ?_
      refine lv_aload_n hx hb dX12_next_214 rfl (lv_at hl 0 rfl) ?_
      obtain ⟨x6, e, hf⟩ := ob hf
      refine q_getI e B hw fd_12_6.1 fd_12_6.2.1 fd_12_6.2.2.1 fd_12_6.2.2.2.1 fd_12_6.2.2.2.2 rfl tw_6_49 dX12_next_215 ?_
      refine lv_isub hx hb dX12_next_218 ?_
      refine lv_iconst (v := 3) hx hb dX12_next_219 (by decide) ?_
      refine lv_icmp_le (tgt := 228) hx hb dX12_next_220 (by decide) (fun c7 => ?_) (fun c7 => ?_)
      · have hf := (if_pos c7).symm.trans hf
        refine lv_bipush (v := 24) hx hb dX12_next_228 (by decide) ?_
        obtain ⟨h8, e, hf⟩ := ob hf
        refine q_putI e B hw fd_12_9.1 fd_12_9.2.1 fd_12_9.2.2.1 fd_12_9.2.2.2.1 fd_12_9.2.2.2.2 rfl rfl (tyX12_ok 9 (by decide)) tyX12 tyX12_ok nmX12 tw_6_52 dX12_next_230 (fun H locs hw => ?_)
        refine lv_goto (tgt := 294) hx hb dX12_next_233 (by decide) ?_
        obtain rfl := so hf
        exact q_vret B hw hz hc0 hr hlk dX12_next_294
      · have hf := (if_neg c7).symm.trans hf
        refine lv_bipush (v := 26) hx hb dX12_next_223 (by decide) ?_
        refine lv_goto (tgt := 230) hx hb dX12_next_225 (by decide) ?_
        obtain ⟨h9, e, hf⟩ := ob hf
        refine q_putI e B hw fd_12_9.1 fd_12_9.2.1 fd_12_9.2.2.1 fd_12_9.2.2.2.1 fd_12_9.2.2.2.2 rfl rfl (tyX12_ok 9 (by decide)) tyX12 tyX12_ok nmX12 tw_6_52 dX12_next_230 (fun H locs hw => ?_)
        refine lv_goto (tgt := 294) hx hb dX12_next_233 (by decide) ?_
        obtain rfl := so hf
        exact q_vret B hw hz hc0 hr hlk dX12_next_294
    · have hf := (if_neg c4).symm.trans hf
      refine lv_aload_n hx hb dX12_next_160 rfl (lv_at hl 0 rfl) ?_
      obtain ⟨x10, e, hf⟩ := ob hf
      refine q_getI e B hw fd_12_7.1 fd_12_7.2.1 fd_12_7.2.2.1 fd_12_7.2.2.2.1 fd_12_7.2.2.2.2 rfl tw_6_50 dX12_next_161 ?_
      refine lv_aload_n hx hb dX12_next_164 rfl (lv_at hl 0 rfl) ?_
      obtain ⟨x11, e, hf⟩ := ob hf
      refine q_getI e B hw fd_12_6.1 fd_12_6.2.1 fd_12_6.2.2.1 fd_12_6.2.2.2.1 fd_12_6.2.2.2.2 rfl tw_6_49 dX12_next_165 ?_
      refine lv_isub hx hb dX12_next_168 ?_
      refine lv_iconst (v := 3) hx hb dX12_next_169 (by decide) ?_
      refine lv_icmp_ge (tgt := 196) hx hb dX12_next_170 (by decide) (fun c12 => ?_) (fun c12 => ?_)
      · have hf := (if_pos c12).symm.trans hf
        exact w_X12_next_196 G B hz hc0 hr hlk ih h v0 _ _ _ hw (lv_sub hl [0] rfl) hf
      · have hf := (if_neg c12).symm.trans hf
        refine lv_aload_n hx hb dX12_next_173 rfl (lv_at hl 0 rfl) ?_
        refine lv_bipush (v := 10) hx hb dX12_next_174 (by decide) ?_
        refine lv_aload_n hx hb dX12_next_176 rfl (lv_at hl 0 rfl) ?_
        obtain ⟨x13, e, hf⟩ := ob hf
        refine q_getI e B hw fd_12_10.1 fd_12_10.2.1 fd_12_10.2.2.1 fd_12_10.2.2.2.1 fd_12_10.2.2.2.2 rfl tw_6_53 dX12_next_177 ?_
        refine lv_imul hx hb dX12_next_180 ?_
        refine lv_aload_n hx hb dX12_next_181 rfl (lv_at hl 0 rfl) ?_
        refine lv_aload_n hx hb dX12_next_182 rfl (lv_at hl 0 rfl) ?_
        obtain ⟨x14, e, hf⟩ := ob hf
        refine q_getI e B hw fd_12_7.1 fd_12_7.2.1 fd_12_7.2.2.1 fd_12_7.2.2.2.1 fd_12_7.2.2.2.2 rfl tw_6_50 dX12_next_183 ?_
        obtain ⟨x15, e, hf⟩ := ob hf
        refine q_callV (As := [.int x14]) (rest := [.int (10 * x13), .ref v0]) (st1 := [.int x15, .int (10 * x13), .ref v0]) (c_X12_see G e) B hw hz hc0 (k_X12_see e) (by decide) (ci := 12) rfl rfl my_X12_see mv_X12_see tw_6_170 ⟨Nat.le_of_ble_eq_true rfl, Nat.le_of_ble_eq_true rfl⟩ ⟨Nat.zero_le _, Nat.zero_le _⟩ rfl hl.1 rfl rfl (Nat.le_of_ble_eq_true rfl) dX12_next_186 (fun H locs hw => ?_)
        refine lv_iadd hx hb dX12_next_189 ?_
        refine lv_bipush (v := 48) hx hb dX12_next_190 (by decide) ?_
        refine lv_isub hx hb dX12_next_192 ?_
        obtain ⟨h16, e, hf⟩ := ob hf
        refine q_putI e B hw fd_12_10.1 fd_12_10.2.1 fd_12_10.2.2.1 fd_12_10.2.2.2.1 fd_12_10.2.2.2.2 rfl rfl (tyX12_ok 10 (by decide)) tyX12 tyX12_ok nmX12 tw_6_53 dX12_next_193 (fun H locs hw => ?_)
        exact w_X12_next_196 G B hz hc0 hr hlk ih h16 v0 _ _ _ hw (lv_sub hl [0] rfl) hf
set_option maxHeartbeats 4000000 in
theorem w_X12_next_89 {p : Program} {l : Launch} {e : Env} {s : State} {m : MethodId} {args : Array Value} {below : List Frame} {meth : Method} {c : Code} {s0 : State} {E : Ev} {z : Sh} {n : Nat} {h' : Hp} (G : Gl s0 E) (B : Bd p s0 s E m c cX12_next 2 RX12) (hz : s0.heap.size ≤ z.sz) (hc0 : s.heap.size + 0 = z.sz) (hr : meth.sig.returnType = none) (hlk : meth.locks = false) : ∀ (i : Nat), ∀ (h : Hp) (v0 : Nat) (H : Heap) (locs : List Loc) (ls : Array Slot), Pw s0 s E z h H locs → lv_has ls 2 [(0, .ref v0)] → f_X12_next_89 n z i h v0 = some h' → W p l e (rmO 5 108) s m args below meth c H locs 0 0 (Zt below s0 E z h' (none) args s 0 0) (F0 m 89 ls []) := by
  have hx := B.1
  have hb := B.2.1
  intro i
  induction i with
  | zero =>
    intro h v0 H locs ls hw hl hf
    have hf := (f_X12_next_89.eq_1 ..).symm.trans hf
    cases hf
  | succ i ih =>
    intro h v0 H locs ls hw hl hf
    have hf := (f_X12_next_89.eq_2 ..).symm.trans hf
    refine lv_aload_n hx hb dX12_next_89 rfl (lv_at hl 0 rfl) ?_
    refine lv_aload_n hx hb dX12_next_90 rfl (lv_at hl 0 rfl) ?_
    obtain ⟨x1, e, hf⟩ := ob hf
    refine q_getI e B hw fd_12_7.1 fd_12_7.2.1 fd_12_7.2.2.1 fd_12_7.2.2.2.1 fd_12_7.2.2.2.2 rfl tw_6_50 dX12_next_91 ?_
    obtain ⟨x2, e, hf⟩ := ob hf
    refine q_callV (As := [.int x1]) (rest := []) (st1 := [.int x2]) (c_X12_see G e) B hw hz hc0 (k_X12_see e) (by decide) (ci := 12) rfl rfl my_X12_see mv_X12_see tw_6_170 ⟨Nat.le_of_ble_eq_true rfl, Nat.le_of_ble_eq_true rfl⟩ ⟨Nat.zero_le _, Nat.zero_le _⟩ rfl hl.1 rfl rfl (Nat.le_of_ble_eq_true rfl) dX12_next_94 (fun H locs hw => ?_)
    obtain ⟨x3, e, hf⟩ := ob hf
    refine q_callS (As := [.int x2]) (rest := []) (st1 := [.int x3]) (c_X12_isSmall G e) B hw hz hc0 my_X12_isSmall mv_X12_isSmall tw_6_174 ⟨Nat.le_of_ble_eq_true rfl, Nat.le_of_ble_eq_true rfl⟩ ⟨Nat.zero_le _, Nat.zero_le _⟩ rfl hl.1 rfl rfl (Nat.le_of_ble_eq_true rfl) dX12_next_97 (fun H locs hw => ?_)
    refine lv_if_eq (tgt := 116) hx hb dX12_next_100 (by decide) (fun c4 => ?_) (fun c4 => ?_)
    · have hf := (if_pos c4).symm.trans hf
      refine lv_aload_n hx hb dX12_next_116 rfl (lv_at hl 0 rfl) ?_
      refine lv_aload_n hx hb dX12_next_117 rfl (lv_at hl 0 rfl) ?_
      obtain ⟨x5, e, hf⟩ := ob hf
      refine q_callV (As := []) (rest := [.ref v0]) (st1 := [.int x5, .ref v0]) (c_X12_keyAt G e) B hw hz hc0 (k_X12_keyAt e) (by decide) (ci := 12) rfl rfl my_X12_keyAt mv_X12_keyAt tw_6_177 ⟨Nat.le_of_ble_eq_true rfl, Nat.le_of_ble_eq_true rfl⟩ ⟨Nat.zero_le _, Nat.zero_le _⟩ rfl hl.1 rfl rfl (Nat.le_of_ble_eq_true rfl) dX12_next_118 (fun H locs hw => ?_)
      obtain ⟨h6, e, hf⟩ := ob hf
      refine q_putI e B hw fd_12_9.1 fd_12_9.2.1 fd_12_9.2.2.1 fd_12_9.2.2.2.1 fd_12_9.2.2.2.2 rfl rfl (tyX12_ok 9 (by decide)) tyX12 tyX12_ok nmX12 tw_6_52 dX12_next_121 (fun H locs hw => ?_)
      refine lv_goto (tgt := 294) hx hb dX12_next_124 (by decide) ?_
      obtain rfl := so hf
      exact q_vret B hw hz hc0 hr hlk dX12_next_294
    · have hf := (if_neg c4).symm.trans hf
      refine lv_aload_n hx hb dX12_next_103 rfl (lv_at hl 0 rfl) ?_
      refine lv_dup hx hb dX12_next_104 rfl ?_
      obtain ⟨x7, e, hf⟩ := ob hf
      refine q_getI e B hw fd_12_7.1 fd_12_7.2.1 fd_12_7.2.2.1 fd_12_7.2.2.2.1 fd_12_7.2.2.2.2 rfl tw_6_50 dX12_next_105 ?_
      refine lv_iconst (v := 1) hx hb dX12_next_108 (by decide) ?_
      refine lv_iadd hx hb dX12_next_109 ?_
      obtain ⟨h8, e, hf⟩ := ob hf
      refine q_putI e B hw fd_12_7.1 fd_12_7.2.1 fd_12_7.2.2.1 fd_12_7.2.2.2.1 fd_12_7.2.2.2.2 rfl rfl (tyX12_ok 7 (by decide)) tyX12 tyX12_ok nmX12 tw_6_50 dX12_next_110 (fun H locs hw => ?_)
      refine lv_goto (tgt := 89) hx hb dX12_next_113 (by decide) ?_
      exact ih h8 v0 _ _ _ hw (lv_sub hl [0] rfl) hf
set_option maxHeartbeats 4000000 in
theorem w_X12_next_34 {p : Program} {l : Launch} {e : Env} {s : State} {m : MethodId} {args : Array Value} {below : List Frame} {meth : Method} {c : Code} {s0 : State} {E : Ev} {z : Sh} {n : Nat} {k8 : Hp → Nat → Option (Hp)} {h' : Hp} (G : Gl s0 E) (B : Bd p s0 s E m c cX12_next 2 RX12) (hz : s0.heap.size ≤ z.sz) (hc0 : s.heap.size + 0 = z.sz) (hr : meth.sig.returnType = none) (hlk : meth.locks = false) (hk8 : ∀ (h : Hp) (v0 : Nat) (H : Heap) (locs : List Loc) (ls : Array Slot), Pw s0 s E z h H locs → lv_has ls 2 [(0, .ref v0)] → k8 h v0 = some h' → W p l e (rmO 5 108) s m args below meth c H locs 0 0 (Zt below s0 E z h' (none) args s 0 0) (F0 m 8 ls [])) : ∀ (h : Hp) (v0 : Nat) (H : Heap) (locs : List Loc) (ls : Array Slot), Pw s0 s E z h H locs → lv_has ls 2 [(0, .ref v0)] → f_X12_next_34 n z k8 h v0 = some h' → W p l e (rmO 5 108) s m args below meth c H locs 0 0 (Zt below s0 E z h' (none) args s 0 0) (F0 m 34 ls []) := by
  have hx := B.1
  have hb := B.2.1
  intro h v0 H locs ls hw hl hf
  unfold f_X12_next_34 at hf
  refine lv_aload_n hx hb dX12_next_34 rfl (lv_at hl 0 rfl) ?_
  refine lv_dup hx hb dX12_next_35 rfl ?_
  obtain ⟨x1, e, hf⟩ := ob hf
  refine q_getI e B hw fd_12_6.1 fd_12_6.2.1 fd_12_6.2.2.1 fd_12_6.2.2.2.1 fd_12_6.2.2.2.2 rfl tw_6_49 dX12_next_36 ?_
  refine lv_iconst (v := 1) hx hb dX12_next_39 (by decide) ?_
  refine lv_iadd hx hb dX12_next_40 ?_
  obtain ⟨h2, e, hf⟩ := ob hf
  refine q_putI e B hw fd_12_6.1 fd_12_6.2.1 fd_12_6.2.2.1 fd_12_6.2.2.2.1 fd_12_6.2.2.2.2 rfl rfl (tyX12_ok 6 (by decide)) tyX12 tyX12_ok nmX12 tw_6_49 dX12_next_41 (fun H locs hw => ?_)
  refine lv_goto (tgt := 8) hx hb dX12_next_44 (by decide) ?_
  exact hk8 h2 v0 _ _ _ hw (lv_sub hl [0] rfl) hf
set_option maxHeartbeats 4000000 in
theorem w_X12_next_8 {p : Program} {l : Launch} {e : Env} {s : State} {m : MethodId} {args : Array Value} {below : List Frame} {meth : Method} {c : Code} {s0 : State} {E : Ev} {z : Sh} {n : Nat} {h' : Hp} (G : Gl s0 E) (B : Bd p s0 s E m c cX12_next 2 RX12) (hz : s0.heap.size ≤ z.sz) (hc0 : s.heap.size + 0 = z.sz) (hr : meth.sig.returnType = none) (hlk : meth.locks = false) : ∀ (i : Nat), ∀ (h : Hp) (v0 : Nat) (H : Heap) (locs : List Loc) (ls : Array Slot), Pw s0 s E z h H locs → lv_has ls 2 [(0, .ref v0)] → f_X12_next_8 n z i h v0 = some h' → W p l e (rmO 5 108) s m args below meth c H locs 0 0 (Zt below s0 E z h' (none) args s 0 0) (F0 m 8 ls []) := by
  have hx := B.1
  have hb := B.2.1
  intro i
  induction i with
  | zero =>
    intro h v0 H locs ls hw hl hf
    have hf := (f_X12_next_8.eq_1 ..).symm.trans hf
    cases hf
  | succ i ih =>
    intro h v0 H locs ls hw hl hf
    have hf := (f_X12_next_8.eq_2 ..).symm.trans hf
    refine lv_aload_n hx hb dX12_next_8 rfl (lv_at hl 0 rfl) ?_
    refine lv_aload_n hx hb dX12_next_9 rfl (lv_at hl 0 rfl) ?_
    obtain ⟨x1, e, hf⟩ := ob hf
    refine q_getI e B hw fd_12_6.1 fd_12_6.2.1 fd_12_6.2.2.1 fd_12_6.2.2.2.1 fd_12_6.2.2.2.2 rfl tw_6_49 dX12_next_10 ?_
    obtain ⟨x2, e, hf⟩ := ob hf
    refine q_callV (As := [.int x1]) (rest := []) (st1 := [.int x2]) (c_X12_see G e) B hw hz hc0 (k_X12_see e) (by decide) (ci := 12) rfl rfl my_X12_see mv_X12_see tw_6_170 ⟨Nat.le_of_ble_eq_true rfl, Nat.le_of_ble_eq_true rfl⟩ ⟨Nat.zero_le _, Nat.zero_le _⟩ rfl hl.1 rfl rfl (Nat.le_of_ble_eq_true rfl) dX12_next_13 (fun H locs hw => ?_)
    refine lv_bipush (v := 10) hx hb dX12_next_16 (by decide) ?_
    refine lv_icmp_eq (tgt := 34) hx hb dX12_next_18 (by decide) (fun c3 => ?_) (fun c3 => ?_)
    · have hf := (if_pos c3).symm.trans hf
      exact w_X12_next_34 G B hz hc0 hr hlk ih h v0 _ _ _ hw (lv_sub hl [0] rfl) hf
    · have hf := (if_neg c3).symm.trans hf
      refine lv_aload_n hx hb dX12_next_21 rfl (lv_at hl 0 rfl) ?_
      refine lv_aload_n hx hb dX12_next_22 rfl (lv_at hl 0 rfl) ?_
      obtain ⟨x4, e, hf⟩ := ob hf
      refine q_getI e B hw fd_12_6.1 fd_12_6.2.1 fd_12_6.2.2.1 fd_12_6.2.2.2.1 fd_12_6.2.2.2.2 rfl tw_6_49 dX12_next_23 ?_
      obtain ⟨x5, e, hf⟩ := ob hf
      refine q_callV (As := [.int x4]) (rest := []) (st1 := [.int x5]) (c_X12_see G e) B hw hz hc0 (k_X12_see e) (by decide) (ci := 12) rfl rfl my_X12_see mv_X12_see tw_6_170 ⟨Nat.le_of_ble_eq_true rfl, Nat.le_of_ble_eq_true rfl⟩ ⟨Nat.zero_le _, Nat.zero_le _⟩ rfl hl.1 rfl rfl (Nat.le_of_ble_eq_true rfl) dX12_next_26 (fun H locs hw => ?_)
      refine lv_bipush (v := 32) hx hb dX12_next_29 (by decide) ?_
      refine lv_icmp_ne (tgt := 47) hx hb dX12_next_31 (by decide) (fun c6 => ?_) (fun c6 => ?_)
      · have hf := (if_neg c6).symm.trans hf
        refine lv_aload_n hx hb dX12_next_47 rfl (lv_at hl 0 rfl) ?_
        refine lv_aload_n hx hb dX12_next_48 rfl (lv_at hl 0 rfl) ?_
        obtain ⟨x7, e, hf⟩ := ob hf
        refine q_getI e B hw fd_12_6.1 fd_12_6.2.1 fd_12_6.2.2.1 fd_12_6.2.2.2.1 fd_12_6.2.2.2.2 rfl tw_6_49 dX12_next_49 ?_
        obtain ⟨h8, e, hf⟩ := ob hf
        refine q_putI e B hw fd_12_7.1 fd_12_7.2.1 fd_12_7.2.2.1 fd_12_7.2.2.2.1 fd_12_7.2.2.2.2 rfl rfl (tyX12_ok 7 (by decide)) tyX12 tyX12_ok nmX12 tw_6_50 dX12_next_52 (fun H locs hw => ?_)
        refine lv_aload_n hx hb dX12_next_55 rfl (lv_at hl 0 rfl) ?_
        obtain ⟨x9, e, hf⟩ := ob hf
        refine q_getI e B hw fd_12_6.1 fd_12_6.2.1 fd_12_6.2.2.1 fd_12_6.2.2.2.1 fd_12_6.2.2.2.2 rfl tw_6_49 dX12_next_56 ?_
        refine lv_aload_n hx hb dX12_next_59 rfl (lv_at hl 0 rfl) ?_
        obtain ⟨x10, e, hf⟩ := ob hf
        refine q_getI e B hw fd_12_8.1 fd_12_8.2.1 fd_12_8.2.2.1 fd_12_8.2.2.2.1 fd_12_8.2.2.2.2 rfl tw_6_51 dX12_next_60 ?_
        refine lv_icmp_lt (tgt := 75) hx hb dX12_next_63 (by decide) (fun c11 => ?_) (fun c11 => ?_)
        · have hf := (if_pos c11).symm.trans hf
          refine lv_aload_n hx hb dX12_next_75 rfl (lv_at hl 0 rfl) ?_
          refine lv_aload_n hx hb dX12_next_76 rfl (lv_at hl 0 rfl) ?_
          obtain ⟨x12, e, hf⟩ := ob hf
          refine q_getI e B hw fd_12_6.1 fd_12_6.2.1 fd_12_6.2.2.1 fd_12_6.2.2.2.1 fd_12_6.2.2.2.2 rfl tw_6_49 dX12_next_77 ?_
          obtain ⟨x13, e, hf⟩ := ob hf
          refine q_callV (As := [.int x12]) (rest := []) (st1 := [.int x13]) (c_X12_see G e) B hw hz hc0 (k_X12_see e) (by decide) (ci := 12) rfl rfl my_X12_see mv_X12_see tw_6_170 ⟨Nat.le_of_ble_eq_true rfl, Nat.le_of_ble_eq_true rfl⟩ ⟨Nat.zero_le _, Nat.zero_le _⟩ rfl hl.1 rfl rfl (Nat.le_of_ble_eq_true rfl) dX12_next_80 (fun H locs hw => ?_)
          obtain ⟨x14, e, hf⟩ := ob hf
          refine q_callS (As := [.int x13]) (rest := []) (st1 := [.int x14]) (c_X12_isSmall G e) B hw hz hc0 my_X12_isSmall mv_X12_isSmall tw_6_174 ⟨Nat.le_of_ble_eq_true rfl, Nat.le_of_ble_eq_true rfl⟩ ⟨Nat.zero_le _, Nat.zero_le _⟩ rfl hl.1 rfl rfl (Nat.le_of_ble_eq_true rfl) dX12_next_83 (fun H locs hw => ?_)
          refine lv_if_eq (tgt := 127) hx hb dX12_next_86 (by decide) (fun c15 => ?_) (fun c15 => ?_)
          · have hf := (if_pos c15).symm.trans hf
            refine lv_aload_n hx hb dX12_next_127 rfl (lv_at hl 0 rfl) ?_
            refine lv_aload_n hx hb dX12_next_128 rfl (lv_at hl 0 rfl) ?_
            obtain ⟨x16, e, hf⟩ := ob hf
            refine q_getI e B hw fd_12_6.1 fd_12_6.2.1 fd_12_6.2.2.1 fd_12_6.2.2.2.1 fd_12_6.2.2.2.2 rfl tw_6_49 dX12_next_129 ?_
            obtain ⟨x17, e, hf⟩ := ob hf
            refine q_callV (As := [.int x16]) (rest := []) (st1 := [.int x17]) (c_X12_see G e) B hw hz hc0 (k_X12_see e) (by decide) (ci := 12) rfl rfl my_X12_see mv_X12_see tw_6_170 ⟨Nat.le_of_ble_eq_true rfl, Nat.le_of_ble_eq_true rfl⟩ ⟨Nat.zero_le _, Nat.zero_le _⟩ rfl hl.1 rfl rfl (Nat.le_of_ble_eq_true rfl) dX12_next_132 (fun H locs hw => ?_)
            obtain ⟨x18, e, hf⟩ := ob hf
            refine q_callS (As := [.int x17]) (rest := []) (st1 := [.int x18]) (c_X12_isDigit G e) B hw hz hc0 my_X12_isDigit mv_X12_isDigit tw_6_184 ⟨Nat.le_of_ble_eq_true rfl, Nat.le_of_ble_eq_true rfl⟩ ⟨Nat.zero_le _, Nat.zero_le _⟩ rfl hl.1 rfl rfl (Nat.le_of_ble_eq_true rfl) dX12_next_135 (fun H locs hw => ?_)
            refine lv_if_eq (tgt := 236) hx hb dX12_next_138 (by decide) (fun c19 => ?_) (fun c19 => ?_)
            · have hf := (if_pos c19).symm.trans hf
              refine lv_aload_n hx hb dX12_next_236 rfl (lv_at hl 0 rfl) ?_
              refine lv_dup hx hb dX12_next_237 rfl ?_
              obtain ⟨x20, e, hf⟩ := ob hf
              refine q_getI e B hw fd_12_7.1 fd_12_7.2.1 fd_12_7.2.2.1 fd_12_7.2.2.2.1 fd_12_7.2.2.2.2 rfl tw_6_50 dX12_next_238 ?_
              refine lv_iconst (v := 1) hx hb dX12_next_241 (by decide) ?_
              refine lv_iadd hx hb dX12_next_242 ?_
              obtain ⟨h21, e, hf⟩ := ob hf
              refine q_putI e B hw fd_12_7.1 fd_12_7.2.1 fd_12_7.2.2.1 fd_12_7.2.2.2.1 fd_12_7.2.2.2.2 rfl rfl (tyX12_ok 7 (by decide)) tyX12 tyX12_ok nmX12 tw_6_50 dX12_next_243 (fun H locs hw => ?_)
              refine lv_aload_n hx hb dX12_next_246 rfl (lv_at hl 0 rfl) ?_
              refine lv_bipush (v := 26) hx hb dX12_next_247 (by decide) ?_
              obtain ⟨h22, e, hf⟩ := ob hf
              refine q_putI e B hw fd_12_9.1 fd_12_9.2.1 fd_12_9.2.2.1 fd_12_9.2.2.2.1 fd_12_9.2.2.2.2 rfl rfl (tyX12_ok 9 (by decide)) tyX12 tyX12_ok nmX12 tw_6_52 dX12_next_249 (fun H locs hw => ?_)
              refine lv_iconst (v := 0) hx hb dX12_next_252 (by decide) ?_
              refine lv_istore_n (lv' := [(1, .int 0), (0, .ref v0)]) hx hb dX12_next_253 rfl hl (by decide) rfl (fun ls hl => ?_)
              exact w_X12_next_254 G B hz hc0 hr hlk  n h22 v0 0 _ _ _ hw (lv_sub hl [1, 0] rfl) hf
            · have hf := (if_neg c19).symm.trans hf
              refine lv_aload_n hx hb dX12_next_141 rfl (lv_at hl 0 rfl) ?_
              refine lv_iconst (v := 0) hx hb dX12_next_142 (by decide) ?_
              obtain ⟨h23, e, hf⟩ := ob hf
              refine q_putI e B hw fd_12_10.1 fd_12_10.2.1 fd_12_10.2.2.1 fd_12_10.2.2.2.1 fd_12_10.2.2.2.2 rfl rfl (tyX12_ok 10 (by decide)) tyX12 tyX12_ok nmX12 tw_6_53 dX12_next_143 (fun H locs hw => ?_)
              exact w_X12_next_146 G B hz hc0 hr hlk  n h23 v0 _ _ _ hw (lv_sub hl [0] rfl) hf
          · have hf := (if_neg c15).symm.trans hf
            exact w_X12_next_89 G B hz hc0 hr hlk  n h8 v0 _ _ _ hw (lv_sub hl [0] rfl) hf
        · have hf := (if_neg c11).symm.trans hf
          refine lv_aload_n hx hb dX12_next_66 rfl (lv_at hl 0 rfl) ?_
          refine lv_bipush (v := 25) hx hb dX12_next_67 (by decide) ?_
          obtain ⟨h24, e, hf⟩ := ob hf
          refine q_putI e B hw fd_12_9.1 fd_12_9.2.1 fd_12_9.2.2.1 fd_12_9.2.2.2.1 fd_12_9.2.2.2.2 rfl rfl (tyX12_ok 9 (by decide)) tyX12 tyX12_ok nmX12 tw_6_52 dX12_next_69 (fun H locs hw => ?_)
          refine lv_goto (tgt := 294) hx hb dX12_next_72 (by decide) ?_
          obtain rfl := so hf
          exact q_vret B hw hz hc0 hr hlk dX12_next_294
      · have hf := (if_pos c6).symm.trans hf
        exact w_X12_next_34 G B hz hc0 hr hlk ih h v0 _ _ _ hw (lv_sub hl [0] rfl) hf
set_option maxHeartbeats 4000000 in
theorem c_X12_next {l : Launch} {s0 : State} {E : Ev} (G : Gl s0 E) {n : Nat} {z : Sh} {h : Hp} {v0 : Nat} {h' : Hp} (hf : f_X12_next n z h v0 = some h') : Ct l s0 E yX12_next cX12_next 2 none 5 108 [.ref v0] z h h' (none) := by
  refine Ct.of G (by decide) (Nat.le_of_ble_eq_true rfl) ?_
  intro p e s m below meth c ls B hw hz hc0 hr hlk hl
  have B : Bd p s0 s E m c cX12_next 2 RX12 := B
  have hx := B.1
  have hb := B.2.1
  have hl : lv_has ls 2 [(0, .ref v0)] := hl
  unfold f_X12_next at hf
  obtain ⟨_, hf⟩ := if_some hf
  refine lv_aload_n hx hb dX12_next_0 rfl (lv_at hl 0 rfl) ?_
  refine lv_aload_n hx hb dX12_next_1 rfl (lv_at hl 0 rfl) ?_
  obtain ⟨x1, e, hf⟩ := ob hf
  refine q_getI e B hw fd_12_7.1 fd_12_7.2.1 fd_12_7.2.2.1 fd_12_7.2.2.2.1 fd_12_7.2.2.2.2 rfl tw_6_50 dX12_next_2 ?_
  obtain ⟨h2, e, hf⟩ := ob hf
  refine q_putI e B hw fd_12_6.1 fd_12_6.2.1 fd_12_6.2.2.1 fd_12_6.2.2.2.1 fd_12_6.2.2.2.2 rfl rfl (tyX12_ok 6 (by decide)) tyX12 tyX12_ok nmX12 tw_6_49 dX12_next_5 (fun H locs hw => ?_)
  exact w_X12_next_8 G B hz hc0 hr hlk  n h2 v0 _ _ _ hw (lv_sub hl [0] rfl) hf
/-! SecondLifeModel.eats(I)Z -/
def f_X12_eats (n : Nat) (z : Sh) (h : Hp) (v0 : Nat) (v1 : Int32) : Option (Int32 × Hp) :=
  if z.K v0 = 12 then
    (f_X12_is z h v0 v1).bind fun x1 =>
    if x1 = 0 then
      some (0, h)
    else
      (f_X12_next n z h v0).bind fun h3 =>
      some (1, h3)
  else none
theorem k_X12_eats {n : Nat} {z : Sh} {h : Hp} {v0 : Nat} {v1 : Int32} {w : Int32 × Hp} (hf : f_X12_eats n z h v0 v1 = some w) : z.K v0 = 12 := by
  unfold f_X12_eats at hf
  exact (if_some hf).1
set_option maxHeartbeats 4000000 in
theorem c_X12_eats {l : Launch} {s0 : State} {E : Ev} (G : Gl s0 E) {n : Nat} {z : Sh} {h : Hp} {v0 : Nat} {v1 : Int32} {r : Int32} {h' : Hp} (hf : f_X12_eats n z h v0 v1 = some (r, h')) : Ct l s0 E yX12_eats cX12_eats 2 (some .boolean) 6 129 [.ref v0, .int v1] z h h' (some (.int r)) := by
  refine Ct.of G (by decide) (Nat.le_of_ble_eq_true rfl) ?_
  intro p e s m below meth c ls B hw hz hc0 hr hlk hl
  have B : Bd p s0 s E m c cX12_eats 2 RX12 := B
  have hx := B.1
  have hb := B.2.1
  have hl : lv_has ls 2 [(0, .ref v0), (1, .int v1)] := hl
  unfold f_X12_eats at hf
  obtain ⟨_, hf⟩ := if_some hf
  refine lv_aload_n hx hb dX12_eats_0 rfl (lv_at hl 0 rfl) ?_
  refine lv_iload_n hx hb dX12_eats_1 rfl (lv_at hl 1 rfl) ?_
  obtain ⟨x1, e, hf⟩ := ob hf
  refine q_callV (As := [.int v1]) (rest := []) (st1 := [.int x1]) (c_X12_is G e) B hw hz hc0 (k_X12_is e) (by decide) (ci := 12) rfl rfl my_X12_is mv_X12_is tw_6_192 ⟨Nat.le_of_ble_eq_true rfl, Nat.le_of_ble_eq_true rfl⟩ ⟨Nat.zero_le _, Nat.zero_le _⟩ rfl hl.1 rfl rfl (Nat.le_of_ble_eq_true rfl) dX12_eats_2 (fun H locs hw => ?_)
  refine lv_if_ne (tgt := 10) hx hb dX12_eats_5 (by decide) (fun c2 => ?_) (fun c2 => ?_)
  · have hf := (if_neg c2).symm.trans hf
    refine lv_aload_n hx hb dX12_eats_10 rfl (lv_at hl 0 rfl) ?_
    obtain ⟨h3, e, hf⟩ := ob hf
    refine q_callV (As := []) (rest := []) (st1 := []) (c_X12_next G e) B hw hz hc0 (k_X12_next e) (by decide) (ci := 12) rfl rfl my_X12_next mv_X12_next tw_6_166 ⟨Nat.le_of_ble_eq_true rfl, Nat.le_of_ble_eq_true rfl⟩ ⟨Nat.zero_le _, Nat.zero_le _⟩ rfl hl.1 rfl rfl (Nat.le_of_ble_eq_true rfl) dX12_eats_11 (fun H locs hw => ?_)
    refine lv_iconst (v := 1) hx hb dX12_eats_14 (by decide) ?_
    obtain ⟨rfl, rfl⟩ := so2 hf
    exact q_zret (Or.inr rfl) B hw hz hc0 hr hlk dX12_eats_15
  · have hf := (if_pos c2).symm.trans hf
    refine lv_iconst (v := 0) hx hb dX12_eats_8 (by decide) ?_
    obtain ⟨rfl, rfl⟩ := so2 hf
    exact q_zret (Or.inl rfl) B hw hz hc0 hr hlk dX12_eats_9
/-! SecondLifeModel.takes(II)I -/
def f_X12_takes_37 (n : Nat) (z : Sh) (h : Hp) (v0 : Nat) : Option (Int32 × Hp) :=
  (gI z h 12 v0 10).bind fun x1 =>
  (gI z h 12 v0 11).bind fun x2 =>
  if x2 = 0 then
    (f_X12_next n z h v0).bind fun h4 =>
    some (x1, h4)
  else
    some (x1, h)
def f_X12_takes (n : Nat) (z : Sh) (h : Hp) (v0 : Nat) (v1 : Int32) (v2 : Int32) : Option (Int32 × Hp) :=
  if z.K v0 = 12 then
    (f_X12_is z h v0 24).bind fun x1 =>
    if x1 = 0 then
      (f_X12_fails z h v0 2).bind fun h7 =>
      f_X12_takes_37 n z h7 v0
    else
      (gI z h 12 v0 10).bind fun x3 =>
      (f_X12_within z h (Int32.toInt64 x3) (Int32.toInt64 v1) (Int32.toInt64 v2)).bind fun x4 =>
      if x4 = 0 then
        (f_X12_fails z h v0 3).bind fun h6 =>
        f_X12_takes_37 n z h6 v0
      else
        f_X12_takes_37 n z h v0
  else none
theorem k_X12_takes {n : Nat} {z : Sh} {h : Hp} {v0 : Nat} {v1 : Int32} {v2 : Int32} {w : Int32 × Hp} (hf : f_X12_takes n z h v0 v1 v2 = some w) : z.K v0 = 12 := by
  unfold f_X12_takes at hf
  exact (if_some hf).1
set_option maxHeartbeats 4000000 in
theorem w_X12_takes_37 {p : Program} {l : Launch} {e : Env} {s : State} {m : MethodId} {args : Array Value} {below : List Frame} {meth : Method} {c : Code} {s0 : State} {E : Ev} {z : Sh} {n : Nat} {r : Int32} {h' : Hp} (G : Gl s0 E) (B : Bd p s0 s E m c cX12_takes 4 RX12) (hz : s0.heap.size ≤ z.sz) (hc0 : s.heap.size + 0 = z.sz) (hr : meth.sig.returnType = (some .int)) (hlk : meth.locks = false) : ∀ (h : Hp) (v0 : Nat) (H : Heap) (locs : List Loc) (ls : Array Slot), Pw s0 s E z h H locs → lv_has ls 4 [(0, .ref v0)] → f_X12_takes_37 n z h v0 = some (r, h') → W p l e (rmO 6 129) s m args below meth c H locs 0 0 (Zt below s0 E z h' (some (.int r)) args s 0 0) (F0 m 37 ls []) := by
  have hx := B.1
  have hb := B.2.1
  intro h v0 H locs ls hw hl hf
  unfold f_X12_takes_37 at hf
  refine lv_aload_n hx hb dX12_takes_37 rfl (lv_at hl 0 rfl) ?_
  obtain ⟨x1, e, hf⟩ := ob hf
  refine q_getI e B hw fd_12_10.1 fd_12_10.2.1 fd_12_10.2.2.1 fd_12_10.2.2.2.1 fd_12_10.2.2.2.2 rfl tw_6_53 dX12_takes_38 ?_
  refine lv_istore_n (lv' := [(3, .int x1), (0, .ref v0)]) hx hb dX12_takes_41 rfl hl (by decide) rfl (fun ls hl => ?_)
  refine lv_aload_n hx hb dX12_takes_42 rfl (lv_at hl 1 rfl) ?_
  obtain ⟨x2, e, hf⟩ := ob hf
  refine q_getI e B hw fd_12_11.1 fd_12_11.2.1 fd_12_11.2.2.1 fd_12_11.2.2.2.1 fd_12_11.2.2.2.2 rfl tw_6_54 dX12_takes_43 ?_
  refine lv_if_ne (tgt := 53) hx hb dX12_takes_46 (by decide) (fun c3 => ?_) (fun c3 => ?_)
  · have hf := (if_neg c3).symm.trans hf
    refine lv_iload_n hx hb dX12_takes_53 rfl (lv_at hl 0 rfl) ?_
    obtain ⟨rfl, rfl⟩ := so2 hf
    exact q_iret B hw hz hc0 hr hlk dX12_takes_54
  · have hf := (if_pos c3).symm.trans hf
    refine lv_aload_n hx hb dX12_takes_49 rfl (lv_at hl 1 rfl) ?_
    obtain ⟨h4, e, hf⟩ := ob hf
    refine q_callV (As := []) (rest := []) (st1 := []) (c_X12_next G e) B hw hz hc0 (k_X12_next e) (by decide) (ci := 12) rfl rfl my_X12_next mv_X12_next tw_6_166 ⟨Nat.le_of_ble_eq_true rfl, Nat.le_of_ble_eq_true rfl⟩ ⟨Nat.zero_le _, Nat.zero_le _⟩ rfl hl.1 rfl rfl (Nat.le_of_ble_eq_true rfl) dX12_takes_50 (fun H locs hw => ?_)
    refine lv_iload_n hx hb dX12_takes_53 rfl (lv_at hl 0 rfl) ?_
    obtain ⟨rfl, rfl⟩ := so2 hf
    exact q_iret B hw hz hc0 hr hlk dX12_takes_54
set_option maxHeartbeats 4000000 in
theorem c_X12_takes {l : Launch} {s0 : State} {E : Ev} (G : Gl s0 E) {n : Nat} {z : Sh} {h : Hp} {v0 : Nat} {v1 : Int32} {v2 : Int32} {r : Int32} {h' : Hp} (hf : f_X12_takes n z h v0 v1 v2 = some (r, h')) : Ct l s0 E yX12_takes cX12_takes 4 (some .int) 6 129 [.ref v0, .int v1, .int v2] z h h' (some (.int r)) := by
  refine Ct.of G (by decide) (Nat.le_of_ble_eq_true rfl) ?_
  intro p e s m below meth c ls B hw hz hc0 hr hlk hl
  have B : Bd p s0 s E m c cX12_takes 4 RX12 := B
  have hx := B.1
  have hb := B.2.1
  have hl : lv_has ls 4 [(0, .ref v0), (1, .int v1), (2, .int v2)] := hl
  unfold f_X12_takes at hf
  obtain ⟨_, hf⟩ := if_some hf
  refine lv_aload_n hx hb dX12_takes_0 rfl (lv_at hl 0 rfl) ?_
  refine lv_bipush (v := 24) hx hb dX12_takes_1 (by decide) ?_
  obtain ⟨x1, e, hf⟩ := ob hf
  refine q_callV (As := [.int 24]) (rest := []) (st1 := [.int x1]) (c_X12_is G e) B hw hz hc0 (k_X12_is e) (by decide) (ci := 12) rfl rfl my_X12_is mv_X12_is tw_6_192 ⟨Nat.le_of_ble_eq_true rfl, Nat.le_of_ble_eq_true rfl⟩ ⟨Nat.zero_le _, Nat.zero_le _⟩ rfl hl.1 rfl rfl (Nat.le_of_ble_eq_true rfl) dX12_takes_3 (fun H locs hw => ?_)
  refine lv_if_ne (tgt := 17) hx hb dX12_takes_6 (by decide) (fun c2 => ?_) (fun c2 => ?_)
  · have hf := (if_neg c2).symm.trans hf
    refine lv_aload_n hx hb dX12_takes_17 rfl (lv_at hl 0 rfl) ?_
    obtain ⟨x3, e, hf⟩ := ob hf
    refine q_getI e B hw fd_12_10.1 fd_12_10.2.1 fd_12_10.2.2.1 fd_12_10.2.2.2.1 fd_12_10.2.2.2.2 rfl tw_6_53 dX12_takes_18 ?_
    refine lv_i2l (v := (Int32.toInt64 x3)) hx hb dX12_takes_21 rfl ?_
    refine lv_iload_n hx hb dX12_takes_22 rfl (lv_at hl 1 rfl) ?_
    refine lv_i2l (v := (Int32.toInt64 v1)) hx hb dX12_takes_23 rfl ?_
    refine lv_iload_n hx hb dX12_takes_24 rfl (lv_at hl 2 rfl) ?_
    refine lv_i2l (v := (Int32.toInt64 v2)) hx hb dX12_takes_25 rfl ?_
    obtain ⟨x4, e, hf⟩ := ob hf
    refine q_callS (As := [.long (Int32.toInt64 x3), .long (Int32.toInt64 v1), .long (Int32.toInt64 v2)]) (rest := []) (st1 := [.int x4]) (c_X12_within G e) B hw hz hc0 my_X12_within mv_X12_within tw_6_162 ⟨Nat.le_of_ble_eq_true rfl, Nat.le_of_ble_eq_true rfl⟩ ⟨Nat.zero_le _, Nat.zero_le _⟩ rfl hl.1 rfl rfl (Nat.le_of_ble_eq_true rfl) dX12_takes_26 (fun H locs hw => ?_)
    refine lv_if_ne (tgt := 37) hx hb dX12_takes_29 (by decide) (fun c5 => ?_) (fun c5 => ?_)
    · have hf := (if_neg c5).symm.trans hf
      exact w_X12_takes_37 G B hz hc0 hr hlk  h v0 _ _ _ hw (lv_sub hl [0] rfl) hf
    · have hf := (if_pos c5).symm.trans hf
      refine lv_aload_n hx hb dX12_takes_32 rfl (lv_at hl 0 rfl) ?_
      refine lv_iconst (v := 3) hx hb dX12_takes_33 (by decide) ?_
      obtain ⟨h6, e, hf⟩ := ob hf
      refine q_callV (As := [.int 3]) (rest := []) (st1 := []) (c_X12_fails G e) B hw hz hc0 (k_X12_fails e) (by decide) (ci := 12) rfl rfl my_X12_fails mv_X12_fails tw_6_196 ⟨Nat.le_of_ble_eq_true rfl, Nat.le_of_ble_eq_true rfl⟩ ⟨Nat.zero_le _, Nat.zero_le _⟩ rfl hl.1 rfl rfl (Nat.le_of_ble_eq_true rfl) dX12_takes_34 (fun H locs hw => ?_)
      exact w_X12_takes_37 G B hz hc0 hr hlk  h6 v0 _ _ _ hw (lv_sub hl [0] rfl) hf
  · have hf := (if_pos c2).symm.trans hf
    refine lv_aload_n hx hb dX12_takes_9 rfl (lv_at hl 0 rfl) ?_
    refine lv_iconst (v := 2) hx hb dX12_takes_10 (by decide) ?_
    obtain ⟨h7, e, hf⟩ := ob hf
    refine q_callV (As := [.int 2]) (rest := []) (st1 := []) (c_X12_fails G e) B hw hz hc0 (k_X12_fails e) (by decide) (ci := 12) rfl rfl my_X12_fails mv_X12_fails tw_6_196 ⟨Nat.le_of_ble_eq_true rfl, Nat.le_of_ble_eq_true rfl⟩ ⟨Nat.zero_le _, Nat.zero_le _⟩ rfl hl.1 rfl rfl (Nat.le_of_ble_eq_true rfl) dX12_takes_11 (fun H locs hw => ?_)
    refine lv_goto (tgt := 37) hx hb dX12_takes_14 (by decide) ?_
    exact w_X12_takes_37 G B hz hc0 hr hlk  h7 v0 _ _ _ hw (lv_sub hl [0] rfl) hf
/-! SecondLifeModel.goesIn(I)Z -/
def f_X12_goesIn_22 (n : Nat) (z : Sh) (h : Hp) (v0 : Nat) : Option (Int32 × Hp) :=
  (gI z h 12 v0 11).bind fun x1 =>
  if x1 = 0 then
    some (1, h)
  else
    some (0, h)
def f_X12_goesIn_11 (n : Nat) (z : Sh) (h : Hp) (v0 : Nat) : Option (Int32 × Hp) :=
  (gI z h 12 v0 11).bind fun x1 =>
  if x1 = 0 then
    (f_X12_next n z h v0).bind fun h3 =>
    f_X12_goesIn_22 n z h3 v0
  else
    f_X12_goesIn_22 n z h v0
def f_X12_goesIn (n : Nat) (z : Sh) (h : Hp) (v0 : Nat) (v1 : Int32) : Option (Int32 × Hp) :=
  if z.K v0 = 12 then
    if v1 = 6 then
      (f_X12_fails z h v0 4).bind fun h2 =>
      f_X12_goesIn_11 n z h2 v0
    else
      f_X12_goesIn_11 n z h v0
  else none
theorem k_X12_goesIn {n : Nat} {z : Sh} {h : Hp} {v0 : Nat} {v1 : Int32} {w : Int32 × Hp} (hf : f_X12_goesIn n z h v0 v1 = some w) : z.K v0 = 12 := by
  unfold f_X12_goesIn at hf
  exact (if_some hf).1
set_option maxHeartbeats 4000000 in
theorem w_X12_goesIn_22 {p : Program} {l : Launch} {e : Env} {s : State} {m : MethodId} {args : Array Value} {below : List Frame} {meth : Method} {c : Code} {s0 : State} {E : Ev} {z : Sh} {n : Nat} {r : Int32} {h' : Hp} (G : Gl s0 E) (B : Bd p s0 s E m c cX12_goesIn 2 RX12) (hz : s0.heap.size ≤ z.sz) (hc0 : s.heap.size + 0 = z.sz) (hr : meth.sig.returnType = (some .boolean)) (hlk : meth.locks = false) : ∀ (h : Hp) (v0 : Nat) (H : Heap) (locs : List Loc) (ls : Array Slot), Pw s0 s E z h H locs → lv_has ls 2 [(0, .ref v0)] → f_X12_goesIn_22 n z h v0 = some (r, h') → W p l e (rmO 6 129) s m args below meth c H locs 0 0 (Zt below s0 E z h' (some (.int r)) args s 0 0) (F0 m 22 ls []) := by
  have hx := B.1
  have hb := B.2.1
  intro h v0 H locs ls hw hl hf
  unfold f_X12_goesIn_22 at hf
  refine lv_aload_n hx hb dX12_goesIn_22 rfl (lv_at hl 0 rfl) ?_
  obtain ⟨x1, e, hf⟩ := ob hf
  refine q_getI e B hw fd_12_11.1 fd_12_11.2.1 fd_12_11.2.2.1 fd_12_11.2.2.2.1 fd_12_11.2.2.2.2 rfl tw_6_54 dX12_goesIn_23 ?_
  refine lv_if_ne (tgt := 33) hx hb dX12_goesIn_26 (by decide) (fun c2 => ?_) (fun c2 => ?_)
  · have hf := (if_neg c2).symm.trans hf
    refine lv_iconst (v := 0) hx hb dX12_goesIn_33 (by decide) ?_
    obtain ⟨rfl, rfl⟩ := so2 hf
    exact q_zret (Or.inl rfl) B hw hz hc0 hr hlk dX12_goesIn_34
  · have hf := (if_pos c2).symm.trans hf
    refine lv_iconst (v := 1) hx hb dX12_goesIn_29 (by decide) ?_
    refine lv_goto (tgt := 34) hx hb dX12_goesIn_30 (by decide) ?_
    obtain ⟨rfl, rfl⟩ := so2 hf
    exact q_zret (Or.inr rfl) B hw hz hc0 hr hlk dX12_goesIn_34
set_option maxHeartbeats 4000000 in
theorem w_X12_goesIn_11 {p : Program} {l : Launch} {e : Env} {s : State} {m : MethodId} {args : Array Value} {below : List Frame} {meth : Method} {c : Code} {s0 : State} {E : Ev} {z : Sh} {n : Nat} {r : Int32} {h' : Hp} (G : Gl s0 E) (B : Bd p s0 s E m c cX12_goesIn 2 RX12) (hz : s0.heap.size ≤ z.sz) (hc0 : s.heap.size + 0 = z.sz) (hr : meth.sig.returnType = (some .boolean)) (hlk : meth.locks = false) : ∀ (h : Hp) (v0 : Nat) (H : Heap) (locs : List Loc) (ls : Array Slot), Pw s0 s E z h H locs → lv_has ls 2 [(0, .ref v0)] → f_X12_goesIn_11 n z h v0 = some (r, h') → W p l e (rmO 6 129) s m args below meth c H locs 0 0 (Zt below s0 E z h' (some (.int r)) args s 0 0) (F0 m 11 ls []) := by
  have hx := B.1
  have hb := B.2.1
  intro h v0 H locs ls hw hl hf
  unfold f_X12_goesIn_11 at hf
  refine lv_aload_n hx hb dX12_goesIn_11 rfl (lv_at hl 0 rfl) ?_
  obtain ⟨x1, e, hf⟩ := ob hf
  refine q_getI e B hw fd_12_11.1 fd_12_11.2.1 fd_12_11.2.2.1 fd_12_11.2.2.2.1 fd_12_11.2.2.2.2 rfl tw_6_54 dX12_goesIn_12 ?_
  refine lv_if_ne (tgt := 22) hx hb dX12_goesIn_15 (by decide) (fun c2 => ?_) (fun c2 => ?_)
  · have hf := (if_neg c2).symm.trans hf
    exact w_X12_goesIn_22 G B hz hc0 hr hlk  h v0 _ _ _ hw (lv_sub hl [0] rfl) hf
  · have hf := (if_pos c2).symm.trans hf
    refine lv_aload_n hx hb dX12_goesIn_18 rfl (lv_at hl 0 rfl) ?_
    obtain ⟨h3, e, hf⟩ := ob hf
    refine q_callV (As := []) (rest := []) (st1 := []) (c_X12_next G e) B hw hz hc0 (k_X12_next e) (by decide) (ci := 12) rfl rfl my_X12_next mv_X12_next tw_6_166 ⟨Nat.le_of_ble_eq_true rfl, Nat.le_of_ble_eq_true rfl⟩ ⟨Nat.zero_le _, Nat.zero_le _⟩ rfl hl.1 rfl rfl (Nat.le_of_ble_eq_true rfl) dX12_goesIn_19 (fun H locs hw => ?_)
    exact w_X12_goesIn_22 G B hz hc0 hr hlk  h3 v0 _ _ _ hw (lv_sub hl [0] rfl) hf
set_option maxHeartbeats 4000000 in
theorem c_X12_goesIn {l : Launch} {s0 : State} {E : Ev} (G : Gl s0 E) {n : Nat} {z : Sh} {h : Hp} {v0 : Nat} {v1 : Int32} {r : Int32} {h' : Hp} (hf : f_X12_goesIn n z h v0 v1 = some (r, h')) : Ct l s0 E yX12_goesIn cX12_goesIn 2 (some .boolean) 6 129 [.ref v0, .int v1] z h h' (some (.int r)) := by
  refine Ct.of G (by decide) (Nat.le_of_ble_eq_true rfl) ?_
  intro p e s m below meth c ls B hw hz hc0 hr hlk hl
  have B : Bd p s0 s E m c cX12_goesIn 2 RX12 := B
  have hx := B.1
  have hb := B.2.1
  have hl : lv_has ls 2 [(0, .ref v0), (1, .int v1)] := hl
  unfold f_X12_goesIn at hf
  obtain ⟨_, hf⟩ := if_some hf
  refine lv_iload_n hx hb dX12_goesIn_0 rfl (lv_at hl 1 rfl) ?_
  refine lv_bipush (v := 6) hx hb dX12_goesIn_1 (by decide) ?_
  refine lv_icmp_ne (tgt := 11) hx hb dX12_goesIn_3 (by decide) (fun c1 => ?_) (fun c1 => ?_)
  · have hf := (if_neg c1).symm.trans hf
    exact w_X12_goesIn_11 G B hz hc0 hr hlk  h v0 _ _ _ hw (lv_sub hl [0] rfl) hf
  · have hf := (if_pos c1).symm.trans hf
    refine lv_aload_n hx hb dX12_goesIn_6 rfl (lv_at hl 0 rfl) ?_
    refine lv_iconst (v := 4) hx hb dX12_goesIn_7 (by decide) ?_
    obtain ⟨h2, e, hf⟩ := ob hf
    refine q_callV (As := [.int 4]) (rest := []) (st1 := []) (c_X12_fails G e) B hw hz hc0 (k_X12_fails e) (by decide) (ci := 12) rfl rfl my_X12_fails mv_X12_fails tw_6_196 ⟨Nat.le_of_ble_eq_true rfl, Nat.le_of_ble_eq_true rfl⟩ ⟨Nat.zero_le _, Nat.zero_le _⟩ rfl hl.1 rfl rfl (Nat.le_of_ble_eq_true rfl) dX12_goesIn_8 (fun H locs hw => ?_)
    exact w_X12_goesIn_11 G B hz hc0 hr hlk  h2 v0 _ _ _ hw (lv_sub hl [0] rfl) hf
