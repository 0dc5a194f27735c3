/-! SecondLifeModel.town(I)I -/
def f_X12_town_187 (n : Nat) (z : Sh) : Nat → Hp → Nat → Int32 → Option (Int32 × Hp)
  | 0, _, _, _ => none
  | i + 1, h, v0, v2 =>
    if 1458 ≤ v2 then
      (gR z h 12 v0 1).bind fun a2 =>
      (ldI z h a2 0).bind fun x3 =>
      some (x3, h)
    else
      (gR z h 12 v0 1).bind fun a4 =>
      (gR z h 12 v0 4).bind fun a5 =>
      (ldI z h a5 v2).bind fun x6 =>
      (stI z h a4 v2 x6).bind fun h7 =>
      (some (v2 + 1)).bind fun x8 =>
      (f_X12_town_187 n z i) h7 v0 x8
def f_X12_town_167 (n : Nat) (z : Sh) (h : Hp) (v0 : Nat) (u0 : Int32) (u1 : Nat) : Option (Int32 × Hp) :=
  (pI z h 12 u1 14 u0).bind fun h1 =>
  (gI z h1 12 v0 11).bind fun x2 =>
  if x2 = 0 then
    f_X12_town_187 n z n h1 v0 0
  else
    (gI z h1 12 v0 11).bind fun x4 =>
    some (((-99000030) - x4), h1)
def f_X12_town_143 (n : Nat) (z : Sh) (h : Hp) (v0 : Nat) : Option (Int32 × Hp) :=
  (gI z h 12 v0 11).bind fun x1 =>
  (pI z h 12 v0 13 x1).bind fun h2 =>
  (gI z h2 12 v0 11).bind fun x3 =>
  if x3 = 0 then
    f_X12_town_167 n z h2 v0 (-1) v0
  else
    (gI z h2 12 v0 12).bind fun x5 =>
    f_X12_town_167 n z h2 v0 x5 v0
def f_X12_town_116 (n : Nat) (z : Sh) : Nat → Hp → Nat → Option (Int32 × Hp)
  | 0, _, _ => none
  | i + 1, h, v0 =>
    (gI z h 12 v0 11).bind fun x1 =>
    if x1 = 0 then
      (gI z h 12 v0 9).bind fun x3 =>
      if x3 = 25 then
        f_X12_town_143 n z h v0
      else
        (f_X12_readLine n z h v0).bind fun h5 =>
        (f_X12_ends n z h5 v0).bind fun h6 =>
        (f_X12_town_116 n z i) h6 v0
    else
      f_X12_town_143 n z h v0
def f_X12_town_100 (n : Nat) (z : Sh) (h : Hp) (v0 : Nat) : Option (Int32 × Hp) :=
  (gR z h 12 v0 4).bind fun a1 =>
  (f_X12_takes n z h v0 1 4).bind fun (x2, h3) =>
  (stI z h3 a1 2 x2).bind fun h4 =>
  (f_X12_ends n z h4 v0).bind fun h5 =>
  f_X12_town_116 n z n h5 v0
def f_X12_town_74 (n : Nat) (z : Sh) (h : Hp) (v0 : Nat) : Option (Int32 × Hp) :=
  (gR z h 12 v0 4).bind fun a1 =>
  (f_X12_takes n z h v0 1 6).bind fun (x2, h3) =>
  (stI z h3 a1 1 x2).bind fun h4 =>
  (f_X12_eats n z h4 v0 2).bind fun (x5, h6) =>
  if x5 = 0 then
    (f_X12_fails z h6 v0 2).bind fun h8 =>
    f_X12_town_100 n z h8 v0
  else
    f_X12_town_100 n z h6 v0
def f_X12_town_69 (n : Nat) (z : Sh) (h : Hp) (v0 : Nat) : Option (Int32 × Hp) :=
  (f_X12_fails z h v0 2).bind fun h1 =>
  f_X12_town_74 n z h1 v0
def f_X12_town (n : Nat) (z : Sh) (h : Hp) (v0 : Nat) (v1 : Int32) : Option (Int32 × Hp) :=
  if z.K v0 = 12 then
    (pI z h 12 v0 0 0).bind fun h1 =>
    (gI z h1 12 v0 5).bind fun x2 =>
    (f_X12_within z h1 (Int32.toInt64 v1) 0 (Int32.toInt64 x2)).bind fun x3 =>
    if x3 = 0 then
      some (((-99000003) : Int32), h1)
    else
      (pI z h1 12 v0 8 v1).bind fun h5 =>
      (pI z h5 12 v0 5 0).bind fun h6 =>
      (pI z h6 12 v0 7 0).bind fun h7 =>
      (pI z h7 12 v0 11 0).bind fun h8 =>
      (gR z h8 12 v0 4).bind fun a9 =>
      (f_X12_plain n z h8 a9).bind fun h10 =>
      (f_X12_next n z h10 v0).bind fun h11 =>
      (f_X12_eats n z h11 v0 0).bind fun (x12, h13) =>
      if x12 = 0 then
        f_X12_town_69 n z h13 v0
      else
        (f_X12_eats n z h13 v0 1).bind fun (x15, h16) =>
        if x15 = 0 then
          f_X12_town_69 n z h16 v0
        else
          f_X12_town_74 n z h16 v0
  else none
theorem k_X12_town {n : Nat} {z : Sh} {h : Hp} {v0 : Nat} {v1 : Int32} {w : Int32 × Hp} (hf : f_X12_town n z h v0 v1 = some w) : z.K v0 = 12 := by
  unfold f_X12_town at hf
  exact (if_some hf).1
set_option maxHeartbeats 4000000 in
theorem w_X12_town_187 {p : Program} {l : Launch} {e : Env} {s : State} {m : MethodId} {args : Array Value} {below : List Frame} {meth : Method} {c : Code} {s0 : State} {E : Ev} {z : Sh} {n : Nat} {r : Int32} {h' : Hp} (G : Gl s0 E) (B : Bd p s0 s E m c cX12_town 3 RX12) (hz : s0.heap.size ≤ z.sz) (hc0 : s.heap.size + 0 = z.sz) (hr : meth.sig.returnType = (some .int)) (hlk : meth.locks = false) : ∀ (i : Nat), ∀ (h : Hp) (v0 : Nat) (v2 : Int32) (H : Heap) (locs : List Loc) (ls : Array Slot), Pw s0 s E z h H locs → lv_has ls 3 [(0, .ref v0), (2, .int v2)] → f_X12_town_187 n z i h v0 v2 = some (r, h') → W p l e (rmO 69 3771) s m args below meth c H locs 0 0 (Zt below s0 E z h' (some (.int r)) args s 0 0) (F0 m 187 ls []) := by
  have hx := B.1
  have hb := B.2.1
  intro i
  induction i with
  | zero =>
    intro h v0 v2 H locs ls hw hl hf
    have hf := (f_X12_town_187.eq_1 ..).symm.trans hf
    cases hf
  | succ i ih =>
    intro h v0 v2 H locs ls hw hl hf
    have hf := (f_X12_town_187.eq_2 ..).symm.trans hf
    refine lv_iload_n hx hb dX12_town_187 rfl (lv_at hl 1 rfl) ?_
    refine lv_sipush (v := 1458) hx hb dX12_town_188 (by decide) ?_
    refine lv_icmp_ge (tgt := 212) hx hb dX12_town_191 (by decide) (fun c1 => ?_) (fun c1 => ?_)
    · have hf := (if_pos c1).symm.trans hf
      refine lv_aload_n hx hb dX12_town_212 rfl (lv_at hl 0 rfl) ?_
      obtain ⟨a2, e, hf⟩ := ob hf
      refine q_getR e B hw fd_12_1.1 fd_12_1.2.1 fd_12_1.2.2.1 fd_12_1.2.2.2.1 fd_12_1.2.2.2.2 rfl tw_6_48 dX12_town_213 ?_
      refine lv_iconst (v := 0) hx hb dX12_town_216 (by decide) ?_
      obtain ⟨x3, e, hf⟩ := ob hf
      refine q_ldI e B hw dX12_town_217 ?_
      obtain ⟨rfl, rfl⟩ := so2 hf
      exact q_iret B hw hz hc0 hr hlk dX12_town_218
    · have hf := (if_neg c1).symm.trans hf
      refine lv_aload_n hx hb dX12_town_194 rfl (lv_at hl 0 rfl) ?_
      obtain ⟨a4, e, hf⟩ := ob hf
      refine q_getR e B hw fd_12_1.1 fd_12_1.2.1 fd_12_1.2.2.1 fd_12_1.2.2.2.1 fd_12_1.2.2.2.2 rfl tw_6_48 dX12_town_195 ?_
      refine lv_iload_n hx hb dX12_town_198 rfl (lv_at hl 1 rfl) ?_
      refine lv_aload_n hx hb dX12_town_199 rfl (lv_at hl 0 rfl) ?_
      obtain ⟨a5, e, hf⟩ := ob hf
      refine q_getR e B hw fd_12_4.1 fd_12_4.2.1 fd_12_4.2.2.1 fd_12_4.2.2.2.1 fd_12_4.2.2.2.2 rfl tw_6_51 dX12_town_200 ?_
      refine lv_iload_n hx hb dX12_town_203 rfl (lv_at hl 1 rfl) ?_
      obtain ⟨x6, e, hf⟩ := ob hf
      refine q_ldI e B hw dX12_town_204 ?_
      obtain ⟨h7, e, hf⟩ := ob hf
      refine q_stI e B hw dX12_town_205 (fun H locs hw => ?_)
      obtain ⟨x8, e, hf⟩ := ob hf
      refine lv_iinc (v := x8) (lv' := [(2, .int x8), (0, .ref v0)]) hx hb dX12_town_206 hl (k := 1) rfl (Option.some.inj e) (by decide) rfl (fun ls hl => ?_)
      refine lv_goto (tgt := 187) hx hb dX12_town_209 (by decide) ?_
      exact ih h7 v0 x8 _ _ _ hw (lv_sub hl [1, 0] rfl) hf
set_option maxHeartbeats 4000000 in
theorem w_X12_town_167 {p : Program} {l : Launch} {e : Env} {s : State} {m : MethodId} {args : Array Value} {below : List Frame} {meth : Method} {c : Code} {s0 : State} {E : Ev} {z : Sh} {n : Nat} {r : Int32} {h' : Hp} (G : Gl s0 E) (B : Bd p s0 s E m c cX12_town 3 RX12) (hz : s0.heap.size ≤ z.sz) (hc0 : s.heap.size + 0 = z.sz) (hr : meth.sig.returnType = (some .int)) (hlk : meth.locks = false) : ∀ (h : Hp) (v0 : Nat) (u0 : Int32) (u1 : Nat) (H : Heap) (locs : List Loc) (ls : Array Slot), Pw s0 s E z h H locs → lv_has ls 3 [(0, .ref v0)] → f_X12_town_167 n z h v0 u0 u1 = some (r, h') → W p l e (rmO 69 3771) s m args below meth c H locs 0 0 (Zt below s0 E z h' (some (.int r)) args s 0 0) (F0 m 167 ls [.int u0, .ref u1]) := by
  have hx := B.1
  have hb := B.2.1
  intro h v0 u0 u1 H locs ls hw hl hf
  unfold f_X12_town_167 at hf
  obtain ⟨h1, e, hf⟩ := ob hf
  refine q_putI e B hw fd_12_14.1 fd_12_14.2.1 fd_12_14.2.2.1 fd_12_14.2.2.2.1 fd_12_14.2.2.2.2 rfl rfl (tyX12_ok 14 (by decide)) tyX12 tyX12_ok nmX12 tw_6_61 dX12_town_167 (fun H locs hw => ?_)
  refine lv_aload_n hx hb dX12_town_170 rfl (lv_at hl 0 rfl) ?_
  obtain ⟨x2, e, hf⟩ := ob hf
  refine q_getI e B hw fd_12_11.1 fd_12_11.2.1 fd_12_11.2.2.1 fd_12_11.2.2.2.1 fd_12_11.2.2.2.2 rfl tw_6_58 dX12_town_171 ?_
  refine lv_if_eq (tgt := 185) hx hb dX12_town_174 (by decide) (fun c3 => ?_) (fun c3 => ?_)
  · have hf := (if_pos c3).symm.trans hf
    refine lv_iconst (v := 0) hx hb dX12_town_185 (by decide) ?_
    refine lv_istore_n (lv' := [(2, .int 0), (0, .ref v0)]) hx hb dX12_town_186 rfl hl (by decide) rfl (fun ls hl => ?_)
    exact w_X12_town_187 G B hz hc0 hr hlk  n h1 v0 0 _ _ _ hw (lv_sub hl [1, 0] rfl) hf
  · have hf := (if_neg c3).symm.trans hf
    refine lv_ldc hx hb B.2.2.2.1 (B.w tw_7_30 rfl) dX12_town_177 ?_
    refine lv_aload_n hx hb dX12_town_179 rfl (lv_at hl 0 rfl) ?_
    obtain ⟨x4, e, hf⟩ := ob hf
    refine q_getI e B hw fd_12_11.1 fd_12_11.2.1 fd_12_11.2.2.1 fd_12_11.2.2.2.1 fd_12_11.2.2.2.2 rfl tw_6_58 dX12_town_180 ?_
    refine lv_isub hx hb dX12_town_183 ?_
    obtain ⟨rfl, rfl⟩ := so2 hf
    exact q_iret B hw hz hc0 hr hlk dX12_town_184
set_option maxHeartbeats 4000000 in
theorem w_X12_town_143 {p : Program} {l : Launch} {e : Env} {s : State} {m : MethodId} {args : Array Value} {below : List Frame} {meth : Method} {c : Code} {s0 : State} {E : Ev} {z : Sh} {n : Nat} {r : Int32} {h' : Hp} (G : Gl s0 E) (B : Bd p s0 s E m c cX12_town 3 RX12) (hz : s0.heap.size ≤ z.sz) (hc0 : s.heap.size + 0 = z.sz) (hr : meth.sig.returnType = (some .int)) (hlk : meth.locks = false) : ∀ (h : Hp) (v0 : Nat) (H : Heap) (locs : List Loc) (ls : Array Slot), Pw s0 s E z h H locs → lv_has ls 3 [(0, .ref v0)] → f_X12_town_143 n z h v0 = some (r, h') → W p l e (rmO 69 3771) s m args below meth c H locs 0 0 (Zt below s0 E z h' (some (.int r)) args s 0 0) (F0 m 143 ls []) := by
  have hx := B.1
  have hb := B.2.1
  intro h v0 H locs ls hw hl hf
  unfold f_X12_town_143 at hf
  refine lv_aload_n hx hb dX12_town_143 rfl (lv_at hl 0 rfl) ?_
  refine lv_aload_n hx hb dX12_town_144 rfl (lv_at hl 0 rfl) ?_
  obtain ⟨x1, e, hf⟩ := ob hf
  refine q_getI e B hw fd_12_11.1 fd_12_11.2.1 fd_12_11.2.2.1 fd_12_11.2.2.2.1 fd_12_11.2.2.2.2 rfl tw_6_58 dX12_town_145 ?_
  obtain ⟨h2, e, hf⟩ := ob hf
  refine q_putI e B hw fd_12_13.1 fd_12_13.2.1 fd_12_13.2.2.1 fd_12_13.2.2.2.1 fd_12_13.2.2.2.2 rfl rfl (tyX12_ok 13 (by decide)) tyX12 tyX12_ok nmX12 tw_6_60 dX12_town_148 (fun H locs hw => ?_)
  refine lv_aload_n hx hb dX12_town_151 rfl (lv_at hl 0 rfl) ?_
  refine lv_aload_n hx hb dX12_town_152 rfl (lv_at hl 0 rfl) ?_
  obtain ⟨x3, e, hf⟩ := ob hf
  refine q_getI e B hw fd_12_11.1 fd_12_11.2.1 fd_12_11.2.2.1 fd_12_11.2.2.2.1 fd_12_11.2.2.2.2 rfl tw_6_58 dX12_town_153 ?_
  refine lv_if_ne (tgt := 163) hx hb dX12_town_156 (by decide) (fun c4 => ?_) (fun c4 => ?_)
  · have hf := (if_neg c4).symm.trans hf
    refine lv_aload_n hx hb dX12_town_163 rfl (lv_at hl 0 rfl) ?_
    obtain ⟨x5, e, hf⟩ := ob hf
    refine q_getI e B hw fd_12_12.1 fd_12_12.2.1 fd_12_12.2.2.1 fd_12_12.2.2.2.1 fd_12_12.2.2.2.2 rfl tw_6_59 dX12_town_164 ?_
    exact w_X12_town_167 G B hz hc0 hr hlk  h2 v0 x5 v0 _ _ _ hw (lv_sub hl [0] rfl) hf
  · have hf := (if_pos c4).symm.trans hf
    refine lv_iconst (v := (-1)) hx hb dX12_town_159 (by decide) ?_
    refine lv_goto (tgt := 167) hx hb dX12_town_160 (by decide) ?_
    exact w_X12_town_167 G B hz hc0 hr hlk  h2 v0 (-1) v0 _ _ _ hw (lv_sub hl [0] rfl) hf
set_option maxHeartbeats 4000000 in
theorem w_X12_town_116 {p : Program} {l : Launch} {e : Env} {s : State} {m : MethodId} {args : Array Value} {below : List Frame} {meth : Method} {c : Code} {s0 : State} {E : Ev} {z : Sh} {n : Nat} {r : Int32} {h' : Hp} (G : Gl s0 E) (B : Bd p s0 s E m c cX12_town 3 RX12) (hz : s0.heap.size ≤ z.sz) (hc0 : s.heap.size + 0 = z.sz) (hr : meth.sig.returnType = (some .int)) (hlk : meth.locks = false) : ∀ (i : Nat), ∀ (h : Hp) (v0 : Nat) (H : Heap) (locs : List Loc) (ls : Array Slot), Pw s0 s E z h H locs → lv_has ls 3 [(0, .ref v0)] → f_X12_town_116 n z i h v0 = some (r, h') → W p l e (rmO 69 3771) s m args below meth c H locs 0 0 (Zt below s0 E z h' (some (.int r)) args s 0 0) (F0 m 116 ls []) := by
  have hx := B.1
  have hb := B.2.1
  intro i
  induction i with
  | zero =>
    intro h v0 H locs ls hw hl hf
    have hf := (f_X12_town_116.eq_1 ..).symm.trans hf
    cases hf
  | succ i ih =>
    intro h v0 H locs ls hw hl hf
    have hf := (f_X12_town_116.eq_2 ..).symm.trans hf
    refine lv_aload_n hx hb dX12_town_116 rfl (lv_at hl 0 rfl) ?_
    obtain ⟨x1, e, hf⟩ := ob hf
    refine q_getI e B hw fd_12_11.1 fd_12_11.2.1 fd_12_11.2.2.1 fd_12_11.2.2.2.1 fd_12_11.2.2.2.2 rfl tw_6_58 dX12_town_117 ?_
    refine lv_if_ne (tgt := 143) hx hb dX12_town_120 (by decide) (fun c2 => ?_) (fun c2 => ?_)
    · have hf := (if_neg c2).symm.trans hf
      exact w_X12_town_143 G B hz hc0 hr hlk  h v0 _ _ _ hw (lv_sub hl [0] rfl) hf
    · have hf := (if_pos c2).symm.trans hf
      refine lv_aload_n hx hb dX12_town_123 rfl (lv_at hl 0 rfl) ?_
      obtain ⟨x3, e, hf⟩ := ob hf
      refine q_getI e B hw fd_12_9.1 fd_12_9.2.1 fd_12_9.2.2.1 fd_12_9.2.2.2.1 fd_12_9.2.2.2.2 rfl tw_6_56 dX12_town_124 ?_
      refine lv_bipush (v := 25) hx hb dX12_town_127 (by decide) ?_
      refine lv_icmp_eq (tgt := 143) hx hb dX12_town_129 (by decide) (fun c4 => ?_) (fun c4 => ?_)
      · have hf := (if_pos c4).symm.trans hf
        exact w_X12_town_143 G B hz hc0 hr hlk  h v0 _ _ _ hw (lv_sub hl [0] rfl) hf
      · have hf := (if_neg c4).symm.trans hf
        refine lv_aload_n hx hb dX12_town_132 rfl (lv_at hl 0 rfl) ?_
        obtain ⟨h5, e, hf⟩ := ob hf
        refine q_callV (As := []) (rest := []) (st1 := []) (c_X12_readLine G e) B hw hz hc0 (k_X12_readLine e) (by decide) (ci := 12) rfl rfl my_X12_readLine mv_X12_readLine tw_6_212 ⟨Nat.le_of_ble_eq_true rfl, Nat.le_of_ble_eq_true rfl⟩ ⟨Nat.zero_le _, Nat.zero_le _⟩ rfl hl.1 rfl rfl (Nat.le_of_ble_eq_true rfl) dX12_town_133 (fun H locs hw => ?_)
        refine lv_aload_n hx hb dX12_town_136 rfl (lv_at hl 0 rfl) ?_
        obtain ⟨h6, e, hf⟩ := ob hf
        refine q_callV (As := []) (rest := []) (st1 := []) (c_X12_ends G e) B hw hz hc0 (k_X12_ends e) (by decide) (ci := 12) rfl rfl my_X12_ends mv_X12_ends tw_6_208 ⟨Nat.le_of_ble_eq_true rfl, Nat.le_of_ble_eq_true rfl⟩ ⟨Nat.zero_le _, Nat.zero_le _⟩ rfl hl.1 rfl rfl (Nat.le_of_ble_eq_true rfl) dX12_town_137 (fun H locs hw => ?_)
        refine lv_goto (tgt := 116) hx hb dX12_town_140 (by decide) ?_
        exact ih h6 v0 _ _ _ hw (lv_sub hl [0] rfl) hf
set_option maxHeartbeats 4000000 in
theorem w_X12_town_100 {p : Program} {l : Launch} {e : Env} {s : State} {m : MethodId} {args : Array Value} {below : List Frame} {meth : Method} {c : Code} {s0 : State} {E : Ev} {z : Sh} {n : Nat} {r : Int32} {h' : Hp} (G : Gl s0 E) (B : Bd p s0 s E m c cX12_town 3 RX12) (hz : s0.heap.size ≤ z.sz) (hc0 : s.heap.size + 0 = z.sz) (hr : meth.sig.returnType = (some .int)) (hlk : meth.locks = false) : ∀ (h : Hp) (v0 : Nat) (H : Heap) (locs : List Loc) (ls : Array Slot), Pw s0 s E z h H locs → lv_has ls 3 [(0, .ref v0)] → f_X12_town_100 n z h v0 = some (r, h') → W p l e (rmO 69 3771) s m args below meth c H locs 0 0 (Zt below s0 E z h' (some (.int r)) args s 0 0) (F0 m 100 ls []) := by
  have hx := B.1
  have hb := B.2.1
  intro h v0 H locs ls hw hl hf
  unfold f_X12_town_100 at hf
  refine lv_aload_n hx hb dX12_town_100 rfl (lv_at hl 0 rfl) ?_
  obtain ⟨a1, e, hf⟩ := ob hf
  refine q_getR e B hw fd_12_4.1 fd_12_4.2.1 fd_12_4.2.2.1 fd_12_4.2.2.2.1 fd_12_4.2.2.2.2 rfl tw_6_51 dX12_town_101 ?_
  refine lv_iconst (v := 2) hx hb dX12_town_104 (by decide) ?_
  refine lv_aload_n hx hb dX12_town_105 rfl (lv_at hl 0 rfl) ?_
  refine lv_iconst (v := 1) hx hb dX12_town_106 (by decide) ?_
  refine lv_iconst (v := 4) hx hb dX12_town_107 (by decide) ?_
  obtain ⟨⟨x2, h3⟩, e, hf⟩ := ob hf
  refine q_callV (As := [.int 1, .int 4]) (rest := [.int 2, .ref a1]) (st1 := [.int x2, .int 2, .ref a1]) (c_X12_takes G e) B hw hz hc0 (k_X12_takes e) (by decide) (ci := 12) rfl rfl my_X12_takes mv_X12_takes tw_6_204 ⟨Nat.le_of_ble_eq_true rfl, Nat.le_of_ble_eq_true rfl⟩ ⟨Nat.zero_le _, Nat.zero_le _⟩ rfl hl.1 rfl rfl (Nat.le_of_ble_eq_true rfl) dX12_town_108 (fun H locs hw => ?_)
  obtain ⟨h4, e, hf⟩ := ob hf
  refine q_stI e B hw dX12_town_111 (fun H locs hw => ?_)
  refine lv_aload_n hx hb dX12_town_112 rfl (lv_at hl 0 rfl) ?_
  obtain ⟨h5, e, hf⟩ := ob hf
  refine q_callV (As := []) (rest := []) (st1 := []) (c_X12_ends G e) B hw hz hc0 (k_X12_ends e) (by decide) (ci := 12) rfl rfl my_X12_ends mv_X12_ends tw_6_208 ⟨Nat.le_of_ble_eq_true rfl, Nat.le_of_ble_eq_true rfl⟩ ⟨Nat.zero_le _, Nat.zero_le _⟩ rfl hl.1 rfl rfl (Nat.le_of_ble_eq_true rfl) dX12_town_113 (fun H locs hw => ?_)
  exact w_X12_town_116 G B hz hc0 hr hlk  n h5 v0 _ _ _ hw (lv_sub hl [0] rfl) hf
set_option maxHeartbeats 4000000 in
theorem w_X12_town_74 {p : Program} {l : Launch} {e : Env} {s : State} {m : MethodId} {args : Array Value} {below : List Frame} {meth : Method} {c : Code} {s0 : State} {E : Ev} {z : Sh} {n : Nat} {r : Int32} {h' : Hp} (G : Gl s0 E) (B : Bd p s0 s E m c cX12_town 3 RX12) (hz : s0.heap.size ≤ z.sz) (hc0 : s.heap.size + 0 = z.sz) (hr : meth.sig.returnType = (some .int)) (hlk : meth.locks = false) : ∀ (h : Hp) (v0 : Nat) (H : Heap) (locs : List Loc) (ls : Array Slot), Pw s0 s E z h H locs → lv_has ls 3 [(0, .ref v0)] → f_X12_town_74 n z h v0 = some (r, h') → W p l e (rmO 69 3771) s m args below meth c H locs 0 0 (Zt below s0 E z h' (some (.int r)) args s 0 0) (F0 m 74 ls []) := by
  have hx := B.1
  have hb := B.2.1
  intro h v0 H locs ls hw hl hf
  unfold f_X12_town_74 at hf
  refine lv_aload_n hx hb dX12_town_74 rfl (lv_at hl 0 rfl) ?_
  obtain ⟨a1, e, hf⟩ := ob hf
  refine q_getR e B hw fd_12_4.1 fd_12_4.2.1 fd_12_4.2.2.1 fd_12_4.2.2.2.1 fd_12_4.2.2.2.2 rfl tw_6_51 dX12_town_75 ?_
  refine lv_iconst (v := 1) hx hb dX12_town_78 (by decide) ?_
  refine lv_aload_n hx hb dX12_town_79 rfl (lv_at hl 0 rfl) ?_
  refine lv_iconst (v := 1) hx hb dX12_town_80 (by decide) ?_
  refine lv_bipush (v := 6) hx hb dX12_town_81 (by decide) ?_
  obtain ⟨⟨x2, h3⟩, e, hf⟩ := ob hf
  refine q_callV (As := [.int 1, .int 6]) (rest := [.int 1, .ref a1]) (st1 := [.int x2, .int 1, .ref a1]) (c_X12_takes G e) B hw hz hc0 (k_X12_takes e) (by decide) (ci := 12) rfl rfl my_X12_takes mv_X12_takes tw_6_204 ⟨Nat.le_of_ble_eq_true rfl, Nat.le_of_ble_eq_true rfl⟩ ⟨Nat.zero_le _, Nat.zero_le _⟩ rfl hl.1 rfl rfl (Nat.le_of_ble_eq_true rfl) dX12_town_83 (fun H locs hw => ?_)
  obtain ⟨h4, e, hf⟩ := ob hf
  refine q_stI e B hw dX12_town_86 (fun H locs hw => ?_)
  refine lv_aload_n hx hb dX12_town_87 rfl (lv_at hl 0 rfl) ?_
  refine lv_iconst (v := 2) hx hb dX12_town_88 (by decide) ?_
  obtain ⟨⟨x5, h6⟩, e, hf⟩ := ob hf
  refine q_callV (As := [.int 2]) (rest := []) (st1 := [.int x5]) (c_X12_eats G e) B hw hz hc0 (k_X12_eats e) (by decide) (ci := 12) rfl rfl my_X12_eats mv_X12_eats tw_6_192 ⟨Nat.le_of_ble_eq_true rfl, Nat.le_of_ble_eq_true rfl⟩ ⟨Nat.zero_le _, Nat.zero_le _⟩ rfl hl.1 rfl rfl (Nat.le_of_ble_eq_true rfl) dX12_town_89 (fun H locs hw => ?_)
  refine lv_if_ne (tgt := 100) hx hb dX12_town_92 (by decide) (fun c7 => ?_) (fun c7 => ?_)
  · have hf := (if_neg c7).symm.trans hf
    exact w_X12_town_100 G B hz hc0 hr hlk  h6 v0 _ _ _ hw (lv_sub hl [0] rfl) hf
  · have hf := (if_pos c7).symm.trans hf
    refine lv_aload_n hx hb dX12_town_95 rfl (lv_at hl 0 rfl) ?_
    refine lv_iconst (v := 2) hx hb dX12_town_96 (by decide) ?_
    obtain ⟨h8, e, hf⟩ := ob hf
    refine q_callV (As := [.int 2]) (rest := []) (st1 := []) (c_X12_fails G e) B hw hz hc0 (k_X12_fails e) (by decide) (ci := 12) rfl rfl my_X12_fails mv_X12_fails tw_6_200 ⟨Nat.le_of_ble_eq_true rfl, Nat.le_of_ble_eq_true rfl⟩ ⟨Nat.zero_le _, Nat.zero_le _⟩ rfl hl.1 rfl rfl (Nat.le_of_ble_eq_true rfl) dX12_town_97 (fun H locs hw => ?_)
    exact w_X12_town_100 G B hz hc0 hr hlk  h8 v0 _ _ _ hw (lv_sub hl [0] rfl) hf
set_option maxHeartbeats 4000000 in
theorem w_X12_town_69 {p : Program} {l : Launch} {e : Env} {s : State} {m : MethodId} {args : Array Value} {below : List Frame} {meth : Method} {c : Code} {s0 : State} {E : Ev} {z : Sh} {n : Nat} {r : Int32} {h' : Hp} (G : Gl s0 E) (B : Bd p s0 s E m c cX12_town 3 RX12) (hz : s0.heap.size ≤ z.sz) (hc0 : s.heap.size + 0 = z.sz) (hr : meth.sig.returnType = (some .int)) (hlk : meth.locks = false) : ∀ (h : Hp) (v0 : Nat) (H : Heap) (locs : List Loc) (ls : Array Slot), Pw s0 s E z h H locs → lv_has ls 3 [(0, .ref v0)] → f_X12_town_69 n z h v0 = some (r, h') → W p l e (rmO 69 3771) s m args below meth c H locs 0 0 (Zt below s0 E z h' (some (.int r)) args s 0 0) (F0 m 69 ls []) := by
  have hx := B.1
  have hb := B.2.1
  intro h v0 H locs ls hw hl hf
  unfold f_X12_town_69 at hf
  refine lv_aload_n hx hb dX12_town_69 rfl (lv_at hl 0 rfl) ?_
  refine lv_iconst (v := 2) hx hb dX12_town_70 (by decide) ?_
  obtain ⟨h1, e, hf⟩ := ob hf
  refine q_callV (As := [.int 2]) (rest := []) (st1 := []) (c_X12_fails G e) B hw hz hc0 (k_X12_fails e) (by decide) (ci := 12) rfl rfl my_X12_fails mv_X12_fails tw_6_200 ⟨Nat.le_of_ble_eq_true rfl, Nat.le_of_ble_eq_true rfl⟩ ⟨Nat.zero_le _, Nat.zero_le _⟩ rfl hl.1 rfl rfl (Nat.le_of_ble_eq_true rfl) dX12_town_71 (fun H locs hw => ?_)
  exact w_X12_town_74 G B hz hc0 hr hlk  h1 v0 _ _ _ hw (lv_sub hl [0] rfl) hf
set_option maxHeartbeats 4000000 in
theorem c_X12_town {l : Launch} {s0 : State} {E : Ev} (G : Gl s0 E) {n : Nat} {z : Sh} {h : Hp} {v0 : Nat} {v1 : Int32} {r : Int32} {h' : Hp} (hf : f_X12_town n z h v0 v1 = some (r, h')) : Ct l s0 E yX12_town cX12_town 3 (some .int) 69 3771 [.ref v0, .int v1] z h h' (some (.int r)) := by
  refine Ct.of G (by decide) (Nat.le_of_ble_eq_true rfl) ?_
  intro p e s m below meth c ls B hw hz hc0 hr hlk hl
  have B : Bd p s0 s E m c cX12_town 3 RX12 := B
  have hx := B.1
  have hb := B.2.1
  have hl : lv_has ls 3 [(0, .ref v0), (1, .int v1)] := hl
  unfold f_X12_town at hf
  obtain ⟨_, hf⟩ := if_some hf
  refine lv_aload_n hx hb dX12_town_0 rfl (lv_at hl 0 rfl) ?_
  refine lv_iconst (v := 0) hx hb dX12_town_1 (by decide) ?_
  obtain ⟨h1, e, hf⟩ := ob hf
  refine q_putI e B hw fd_12_0.1 fd_12_0.2.1 fd_12_0.2.2.1 fd_12_0.2.2.2.1 fd_12_0.2.2.2.2 rfl rfl (tyX12_ok 0 (by decide)) tyX12 tyX12_ok nmX12 tw_6_47 dX12_town_2 (fun H locs hw => ?_)
  refine lv_iload_n hx hb dX12_town_5 rfl (lv_at hl 1 rfl) ?_
  refine lv_i2l (v := (Int32.toInt64 v1)) hx hb dX12_town_6 rfl ?_
  refine lv_lconst (v := 0) hx hb dX12_town_7 (by decide) ?_
  refine lv_aload_n hx hb dX12_town_8 rfl (lv_at hl 0 rfl) ?_
  obtain ⟨x2, e, hf⟩ := ob hf
  refine q_getI e B hw fd_12_5.1 fd_12_5.2.1 fd_12_5.2.2.1 fd_12_5.2.2.2.1 fd_12_5.2.2.2.2 rfl tw_6_52 dX12_town_9 ?_
  refine lv_i2l (v := (Int32.toInt64 x2)) hx hb dX12_town_12 rfl ?_
  obtain ⟨x3, e, hf⟩ := ob hf
  refine q_callS (As := [.long (Int32.toInt64 v1), .long 0, .long (Int32.toInt64 x2)]) (rest := []) (st1 := [.int x3]) (c_X12_within G e) B hw hz hc0 my_X12_within mv_X12_within tw_6_166 ⟨Nat.le_of_ble_eq_true rfl, Nat.le_of_ble_eq_true rfl⟩ ⟨Nat.zero_le _, Nat.zero_le _⟩ rfl hl.1 rfl rfl (Nat.le_of_ble_eq_true rfl) dX12_town_13 (fun H locs hw => ?_)
  refine lv_if_ne (tgt := 22) hx hb dX12_town_16 (by decide) (fun c4 => ?_) (fun c4 => ?_)
  · have hf := (if_neg c4).symm.trans hf
    refine lv_aload_n hx hb dX12_town_22 rfl (lv_at hl 0 rfl) ?_
    refine lv_iload_n hx hb dX12_town_23 rfl (lv_at hl 1 rfl) ?_
    obtain ⟨h5, e, hf⟩ := ob hf
    refine q_putI e B hw fd_12_8.1 fd_12_8.2.1 fd_12_8.2.2.1 fd_12_8.2.2.2.1 fd_12_8.2.2.2.2 rfl rfl (tyX12_ok 8 (by decide)) tyX12 tyX12_ok nmX12 tw_6_55 dX12_town_24 (fun H locs hw => ?_)
    refine lv_aload_n hx hb dX12_town_27 rfl (lv_at hl 0 rfl) ?_
    refine lv_iconst (v := 0) hx hb dX12_town_28 (by decide) ?_
    obtain ⟨h6, e, hf⟩ := ob hf
    refine q_putI e B hw fd_12_5.1 fd_12_5.2.1 fd_12_5.2.2.1 fd_12_5.2.2.2.1 fd_12_5.2.2.2.2 rfl rfl (tyX12_ok 5 (by decide)) tyX12 tyX12_ok nmX12 tw_6_52 dX12_town_29 (fun H locs hw => ?_)
    refine lv_aload_n hx hb dX12_town_32 rfl (lv_at hl 0 rfl) ?_
    refine lv_iconst (v := 0) hx hb dX12_town_33 (by decide) ?_
    obtain ⟨h7, e, hf⟩ := ob hf
    refine q_putI e B hw fd_12_7.1 fd_12_7.2.1 fd_12_7.2.2.1 fd_12_7.2.2.2.1 fd_12_7.2.2.2.2 rfl rfl (tyX12_ok 7 (by decide)) tyX12 tyX12_ok nmX12 tw_6_54 dX12_town_34 (fun H locs hw => ?_)
    refine lv_aload_n hx hb dX12_town_37 rfl (lv_at hl 0 rfl) ?_
    refine lv_iconst (v := 0) hx hb dX12_town_38 (by decide) ?_
    obtain ⟨h8, e, hf⟩ := ob hf
    refine q_putI e B hw fd_12_11.1 fd_12_11.2.1 fd_12_11.2.2.1 fd_12_11.2.2.2.1 fd_12_11.2.2.2.2 rfl rfl (tyX12_ok 11 (by decide)) tyX12 tyX12_ok nmX12 tw_6_58 dX12_town_39 (fun H locs hw => ?_)
    refine lv_aload_n hx hb dX12_town_42 rfl (lv_at hl 0 rfl) ?_
    obtain ⟨a9, e, hf⟩ := ob hf
    refine q_getR e B hw fd_12_4.1 fd_12_4.2.1 fd_12_4.2.2.1 fd_12_4.2.2.2.1 fd_12_4.2.2.2.2 rfl tw_6_51 dX12_town_43 ?_
    obtain ⟨h10, e, hf⟩ := ob hf
    refine q_callS (As := [.ref a9]) (rest := []) (st1 := []) (c_X12_plain G e) B hw hz hc0 my_X12_plain mv_X12_plain tw_6_44 ⟨Nat.le_of_ble_eq_true rfl, Nat.le_of_ble_eq_true rfl⟩ ⟨Nat.zero_le _, Nat.zero_le _⟩ rfl hl.1 rfl rfl (Nat.le_of_ble_eq_true rfl) dX12_town_46 (fun H locs hw => ?_)
    refine lv_aload_n hx hb dX12_town_49 rfl (lv_at hl 0 rfl) ?_
    obtain ⟨h11, e, hf⟩ := ob hf
    refine q_callV (As := []) (rest := []) (st1 := []) (c_X12_next G e) B hw hz hc0 (k_X12_next e) (by decide) (ci := 12) rfl rfl my_X12_next mv_X12_next tw_6_170 ⟨Nat.le_of_ble_eq_true rfl, Nat.le_of_ble_eq_true rfl⟩ ⟨Nat.zero_le _, Nat.zero_le _⟩ rfl hl.1 rfl rfl (Nat.le_of_ble_eq_true rfl) dX12_town_50 (fun H locs hw => ?_)
    refine lv_aload_n hx hb dX12_town_53 rfl (lv_at hl 0 rfl) ?_
    refine lv_iconst (v := 0) hx hb dX12_town_54 (by decide) ?_
    obtain ⟨⟨x12, h13⟩, e, hf⟩ := ob hf
    refine q_callV (As := [.int 0]) (rest := []) (st1 := [.int x12]) (c_X12_eats G e) B hw hz hc0 (k_X12_eats e) (by decide) (ci := 12) rfl rfl my_X12_eats mv_X12_eats tw_6_192 ⟨Nat.le_of_ble_eq_true rfl, Nat.le_of_ble_eq_true rfl⟩ ⟨Nat.zero_le _, Nat.zero_le _⟩ rfl hl.1 rfl rfl (Nat.le_of_ble_eq_true rfl) dX12_town_55 (fun H locs hw => ?_)
    refine lv_if_eq (tgt := 69) hx hb dX12_town_58 (by decide) (fun c14 => ?_) (fun c14 => ?_)
    · have hf := (if_pos c14).symm.trans hf
      exact w_X12_town_69 G B hz hc0 hr hlk  h13 v0 _ _ _ hw (lv_sub hl [0] rfl) hf
    · have hf := (if_neg c14).symm.trans hf
      refine lv_aload_n hx hb dX12_town_61 rfl (lv_at hl 0 rfl) ?_
      refine lv_iconst (v := 1) hx hb dX12_town_62 (by decide) ?_
      obtain ⟨⟨x15, h16⟩, e, hf⟩ := ob hf
      refine q_callV (As := [.int 1]) (rest := []) (st1 := [.int x15]) (c_X12_eats G e) B hw hz hc0 (k_X12_eats e) (by decide) (ci := 12) rfl rfl my_X12_eats mv_X12_eats tw_6_192 ⟨Nat.le_of_ble_eq_true rfl, Nat.le_of_ble_eq_true rfl⟩ ⟨Nat.zero_le _, Nat.zero_le _⟩ rfl hl.1 rfl rfl (Nat.le_of_ble_eq_true rfl) dX12_town_63 (fun H locs hw => ?_)
      refine lv_if_ne (tgt := 74) hx hb dX12_town_66 (by decide) (fun c17 => ?_) (fun c17 => ?_)
      · have hf := (if_neg c17).symm.trans hf
        exact w_X12_town_74 G B hz hc0 hr hlk  h16 v0 _ _ _ hw (lv_sub hl [0] rfl) hf
      · have hf := (if_pos c17).symm.trans hf
        exact w_X12_town_69 G B hz hc0 hr hlk  h16 v0 _ _ _ hw (lv_sub hl [0] rfl) hf
  · have hf := (if_pos c4).symm.trans hf
    refine lv_ldc hx hb B.2.2.2.1 (B.w tw_6_169 rfl) dX12_town_19 ?_
    obtain ⟨rfl, rfl⟩ := so2 hf
    exact q_iret B hw hz hc0 hr hlk dX12_town_21
/-! SecondLife$Chances.<init>(LSecondLife$Ways;LSecondLife$Courses;)V -/
def f_X0_init (z : Sh) (h : Hp) (v0 : Nat) (v1 : Nat) (v2 : Nat) : Option (Hp × Sh) :=
  if z.K v0 = 0 then
    gd2 z <|
    (nwO z h 3).bind fun (a1, h2, z3) =>
    gd2 z3 <|
    (f_X3_init z3 h2 a1 1400).bind fun (h4, z5) =>
    gd2 z5 <|
    (pR z5 h4 0 v0 2 (some a1)).bind fun h6 =>
    (nwA z5 h6 14 1400).bind fun (a7, h8, z9) =>
    gd2 z9 <|
    (pR z9 h8 0 v0 3 (some a7)).bind fun h10 =>
    (pR z9 h10 0 v0 4 none).bind fun h11 =>
    (pR z9 h11 0 v0 0 (some v1)).bind fun h12 =>
    (pR z9 h12 0 v0 1 (some v2)).bind fun h13 =>
    some (h13, z9)
  else none
theorem k_X0_init {z : Sh} {h : Hp} {v0 : Nat} {v1 : Nat} {v2 : Nat} {w : Hp × Sh} (hf : f_X0_init z h v0 v1 v2 = some w) : z.K v0 = 0 := by
  unfold f_X0_init at hf
  exact (if_some hf).1
theorem mo_X0_init {z : Sh} {h : Hp} {v0 : Nat} {v1 : Nat} {v2 : Nat} {h' : Hp} {zE : Sh} (hf : f_X0_init z h v0 v1 v2 = some (h', zE)) : z.sz ≤ zE.sz ∧ z.sl ≤ zE.sl := by
  unfold f_X0_init at hf
  exact (gd2_some (if_some hf).2).1
set_option maxHeartbeats 4000000 in
theorem c_X0_init {l : Launch} {s0 : State} {E : Ev} (G : Gl s0 E) {z : Sh} {h : Hp} {v0 : Nat} {v1 : Nat} {v2 : Nat} {h' : Hp} {zE : Sh} (hf : f_X0_init z h v0 v1 v2 = some (h', zE)) : Ca l s0 E yX0_init cX0_init 3 none 2 45 [.ref v0, .ref v1, .ref v2] z zE h h' (none) := by
  refine Ca.of G (by decide +kernel) (Nat.le_of_ble_eq_true rfl) (mo_X0_init hf) ?_
  intro p e s m below meth c ls B hw hM hr hlk hnm0 hl
  have B : Bd p s0 s E m c cX0_init 3 RX0 := B
  have hx := B.1
  have hb := B.2.1
  have hl : lv_has ls 3 [(0, .ref v0), (1, .ref v1), (2, .ref v2)] := hl
  have hin : meth.name = "<init>" := hnm0
  unfold f_X0_init at hf
  obtain ⟨_, hf⟩ := if_some hf
  obtain ⟨_, hf⟩ := gd2_some hf
  refine lv_aload_n hx hb dX0_init_0 rfl (lv_at hl 0 rfl) ?_
  refine q_obj B hl.1 tw_2_61 tw_1_29 tw_1_30 (Nat.le_of_ble_eq_true rfl) (Nat.le_of_ble_eq_true rfl) dX0_init_1 ?_
  refine lv_aload_n hx hb dX0_init_4 rfl (lv_at hl 0 rfl) ?_
  obtain ⟨⟨a1, h2, z3⟩, e, hf⟩ := ob hf
  obtain ⟨hg, hf⟩ := gd2_some hf
  refine q_newO e hg B hw hM (by decide) (ci := 3) rfl rfl tyX3 tyX3_ok dfX3 tw_2_62 tw_2_30 tw_1_10 dX0_init_5 (fun H locs hw hM => ?_)
  refine lv_dup hx hb dX0_init_8 rfl ?_
  refine lv_sipush (v := 1400) hx hb dX0_init_9 (by decide) ?_
  obtain ⟨⟨h4, z5⟩, e, hf⟩ := ob hf
  obtain ⟨hg, hf⟩ := gd2_some hf
  refine q_callINA (As := [.int 1400]) (rest := [.ref a1, .ref v0]) (c_X3_init G e) (mo_X3_init e) hg B hw hM rfl my_X3_init mv_X3_init tw_2_63 ⟨Nat.le_of_ble_eq_true rfl, Nat.le_of_ble_eq_true rfl⟩ rfl hl.1 rfl (Nat.le_of_ble_eq_true rfl) dX0_init_12 (fun H locs hw hM => ?_)
  obtain ⟨h6, e, hf⟩ := ob hf
  refine q_putRF e B hw hin fd_0_2.1 fd_0_2.2.1 fd_0_2.2.2.1 fd_0_2.2.2.2.1 fd_0_2.2.2.2.2 rfl rfl rfl (tyX0_ok 2 (by decide)) (Or.inl ⟨_, rfl⟩) tyX0 tyX0_ok nmX0 tw_2_66 dX0_init_15 (fun H locs hw => ?_)
  refine lv_aload_n hx hb dX0_init_18 rfl (lv_at hl 0 rfl) ?_
  refine lv_sipush (v := 1400) hx hb dX0_init_19 (by decide) ?_
  obtain ⟨⟨a7, h8, z9⟩, e, hf⟩ := ob hf
  obtain ⟨hg, hf⟩ := gd2_some hf
  refine q_newA (atype := .int) (ty := .int) (t0 := 1) e hg B hw hM (by decide) rfl rfl rfl (cfn_14 E _ _) arn_14 tw_1_102 dX0_init_22 (fun H locs hw hM => ?_)
  obtain ⟨h10, e, hf⟩ := ob hf
  refine q_putRF e B hw hin fd_0_3.1 fd_0_3.2.1 fd_0_3.2.2.1 fd_0_3.2.2.2.1 fd_0_3.2.2.2.2 rfl rfl rfl (tyX0_ok 3 (by decide)) (Or.inr ⟨_, rfl⟩) tyX0 tyX0_ok nmX0 tw_2_67 dX0_init_24 (fun H locs hw => ?_)
  refine lv_aload_n hx hb dX0_init_27 rfl (lv_at hl 0 rfl) ?_
  refine lv_null hx hb dX0_init_28 ?_
  obtain ⟨h11, e, hf⟩ := ob hf
  refine q_putNull e B hw fd_0_4.1 fd_0_4.2.1 fd_0_4.2.2.1 fd_0_4.2.2.2.1 fd_0_4.2.2.2.2 rfl rfl (tyX0_ok 4 (by decide)) (Or.inl ⟨_, rfl⟩) tyX0 tyX0_ok nmX0 tw_2_68 dX0_init_29 (fun H locs hw => ?_)
  refine lv_aload_n hx hb dX0_init_32 rfl (lv_at hl 0 rfl) ?_
  refine lv_aload_n hx hb dX0_init_33 rfl (lv_at hl 1 rfl) ?_
  obtain ⟨h12, e, hf⟩ := ob hf
  refine q_putRF e B hw hin fd_0_0.1 fd_0_0.2.1 fd_0_0.2.2.1 fd_0_0.2.2.2.1 fd_0_0.2.2.2.2 rfl rfl rfl (tyX0_ok 0 (by decide)) (Or.inl ⟨_, rfl⟩) tyX0 tyX0_ok nmX0 tw_2_64 dX0_init_34 (fun H locs hw => ?_)
  refine lv_aload_n hx hb dX0_init_37 rfl (lv_at hl 0 rfl) ?_
  refine lv_aload_n hx hb dX0_init_38 rfl (lv_at hl 2 rfl) ?_
  obtain ⟨h13, e, hf⟩ := ob hf
  refine q_putRF e B hw hin fd_0_1.1 fd_0_1.2.1 fd_0_1.2.2.1 fd_0_1.2.2.2.1 fd_0_1.2.2.2.2 rfl rfl rfl (tyX0_ok 1 (by decide)) (Or.inl ⟨_, rfl⟩) tyX0 tyX0_ok nmX0 tw_2_65 dX0_init_39 (fun H locs hw => ?_)
  obtain ⟨rfl, rfl⟩ := so2 hf
  exact q_vret B hw hM.hz hM.hc0 hr hlk dX0_init_42
/-! SecondLife$Chances.keptHopes()LSecondLife$Memo; -/
def f_X0_keptHopes (n : Nat) (z : Sh) (h : Hp) (v0 : Nat) : Option (Option Nat × Hp × Sh) :=
  if z.K v0 = 0 then
    gd3 z <|
    (gN z h 0 v0 4).bind fun o1 =>
    (match o1 with
    | none =>
      (nwO z h 3).bind fun (a3, h4, z5) =>
      gd3 z5 <|
      (f_X0_layOutHopes n z5 h4 v0).bind fun (x6, h7) =>
      (f_X3_init z5 h7 a3 x6).bind fun (h8, z9) =>
      gd3 z9 <|
      (pR z9 h8 0 v0 4 (some a3)).bind fun h10 =>
      (gN z9 h10 0 v0 4).bind fun o11 =>
      (match o11 with
      | none =>
        some (none, h10, z9)
      | some a12 =>
        some ((some a12), h10, z9))
    | some a2 =>
      (gN z h 0 v0 4).bind fun o13 =>
      (match o13 with
      | none =>
        some (none, h, z)
      | some a14 =>
        some ((some a14), h, z)))
  else none
theorem k_X0_keptHopes {n : Nat} {z : Sh} {h : Hp} {v0 : Nat} {w : Option Nat × Hp × Sh} (hf : f_X0_keptHopes n z h v0 = some w) : z.K v0 = 0 := by
  unfold f_X0_keptHopes at hf
  exact (if_some hf).1
theorem mo_X0_keptHopes {n : Nat} {z : Sh} {h : Hp} {v0 : Nat} {r : Option Nat} {h' : Hp} {zE : Sh} (hf : f_X0_keptHopes n z h v0 = some (r, h', zE)) : z.sz ≤ zE.sz ∧ z.sl ≤ zE.sl := by
  unfold f_X0_keptHopes at hf
  exact (gd3_some (if_some hf).2).1
set_option maxHeartbeats 4000000 in
theorem c_X0_keptHopes {l : Launch} {s0 : State} {E : Ev} (G : Gl s0 E) {n : Nat} {z : Sh} {h : Hp} {v0 : Nat} {r : Option Nat} {h' : Hp} {zE : Sh} (hf : f_X0_keptHopes n z h v0 = some (r, h', zE)) : Ca l s0 E yX0_keptHopes cX0_keptHopes 1 (some (.object "SecondLife$Memo")) 2 45 [.ref v0] z zE h h' (some (va_rf r)) := by
  refine Ca.of G (by decide +kernel) (Nat.le_of_ble_eq_true rfl) (mo_X0_keptHopes hf) ?_
  intro p e s m below meth c ls B hw hM hr hlk hnm0 hl
  have B : Bd p s0 s E m c cX0_keptHopes 1 RX0 := B
  have hx := B.1
  have hb := B.2.1
  have hl : lv_has ls 1 [(0, .ref v0)] := hl
  unfold f_X0_keptHopes at hf
  obtain ⟨_, hf⟩ := if_some hf
  obtain ⟨_, hf⟩ := gd3_some hf
  refine lv_aload_n hx hb dX0_keptHopes_0 rfl (lv_at hl 0 rfl) ?_
  obtain ⟨o1, e, hf⟩ := ob hf
  refine q_getNl e B hw fd_0_4.1 fd_0_4.2.1 fd_0_4.2.2.1 fd_0_4.2.2.2.1 fd_0_4.2.2.2.2 rfl tw_2_68 dX0_keptHopes_1 ?_
  rcases o1 with _ | a2
  · refine lv_ifnonnullN hx hb dX0_keptHopes_4 ?_
    refine lv_aload_n hx hb dX0_keptHopes_7 rfl (lv_at hl 0 rfl) ?_
    obtain ⟨⟨a3, h4, z5⟩, e, hf⟩ := ob hf
    obtain ⟨hg, hf⟩ := gd3_some hf
    refine q_newO e hg B hw hM (by decide) (ci := 3) rfl rfl tyX3 tyX3_ok dfX3 tw_2_62 tw_2_30 tw_1_10 dX0_keptHopes_8 (fun H locs hw hM => ?_)
    refine lv_dup hx hb dX0_keptHopes_11 rfl ?_
    refine lv_aload_n hx hb dX0_keptHopes_12 rfl (lv_at hl 0 rfl) ?_
    obtain ⟨⟨x6, h7⟩, e, hf⟩ := ob hf
    refine q_callV (As := []) (rest := [.ref a3, .ref a3, .ref v0]) (st1 := [.int x6, .ref a3, .ref a3, .ref v0]) (c_X0_layOutHopes G e) B hw hM.hz hM.hc0 (k_X0_layOutHopes e) (by decide) (ci := 0) rfl rfl my_X0_layOutHopes mv_X0_layOutHopes tw_5_128 ⟨Nat.le_of_ble_eq_true rfl, Nat.le_of_ble_eq_true rfl⟩ hM.hcs rfl hl.1 rfl rfl (Nat.le_of_ble_eq_true rfl) dX0_keptHopes_13 (fun H locs hw => ?_)
    obtain ⟨⟨h8, z9⟩, e, hf⟩ := ob hf
    obtain ⟨hg, hf⟩ := gd3_some hf
    refine q_callINA (As := [.int x6]) (rest := [.ref a3, .ref v0]) (c_X3_init G e) (mo_X3_init e) hg B hw hM rfl my_X3_init mv_X3_init tw_2_63 ⟨Nat.le_of_ble_eq_true rfl, Nat.le_of_ble_eq_true rfl⟩ rfl hl.1 rfl (Nat.le_of_ble_eq_true rfl) dX0_keptHopes_16 (fun H locs hw hM => ?_)
    obtain ⟨h10, e, hf⟩ := ob hf
    refine q_putR e B hw fd_0_4.1 fd_0_4.2.1 fd_0_4.2.2.1 fd_0_4.2.2.2.1 fd_0_4.2.2.2.2 rfl rfl (tyX0_ok 4 (by decide)) (Or.inl ⟨_, rfl⟩) tyX0 tyX0_ok nmX0 tw_2_68 dX0_keptHopes_19 (fun H locs hw => ?_)
    refine lv_aload_n hx hb dX0_keptHopes_22 rfl (lv_at hl 0 rfl) ?_
    obtain ⟨o11, e, hf⟩ := ob hf
    refine q_getNl e B hw fd_0_4.1 fd_0_4.2.1 fd_0_4.2.2.1 fd_0_4.2.2.2.1 fd_0_4.2.2.2.2 rfl tw_2_68 dX0_keptHopes_23 ?_
    rcases o11 with _ | a12
    · obtain ⟨rfl, rfl, rfl⟩ := so3 hf
      exact q_aret (Or.inl ⟨_, rfl⟩) (Or.inl rfl) B hw hM.hz hM.hc0 hr hlk dX0_keptHopes_26
    · obtain ⟨rfl, rfl, rfl⟩ := so3 hf
      exact q_aret (Or.inl ⟨_, rfl⟩) (Or.inr ⟨_, rfl⟩) B hw hM.hz hM.hc0 hr hlk dX0_keptHopes_26
  · refine lv_ifnonnull (tgt := 22) hx hb dX0_keptHopes_4 (by decide) ?_
    refine lv_aload_n hx hb dX0_keptHopes_22 rfl (lv_at hl 0 rfl) ?_
    obtain ⟨o13, e, hf⟩ := ob hf
    refine q_getNl e B hw fd_0_4.1 fd_0_4.2.1 fd_0_4.2.2.1 fd_0_4.2.2.2.1 fd_0_4.2.2.2.2 rfl tw_2_68 dX0_keptHopes_23 ?_
    rcases o13 with _ | a14
    · obtain ⟨rfl, rfl, rfl⟩ := so3 hf
      exact q_aret (Or.inl ⟨_, rfl⟩) (Or.inl rfl) B hw hM.hz hM.hc0 hr hlk dX0_keptHopes_26
    · obtain ⟨rfl, rfl, rfl⟩ := so3 hf
      exact q_aret (Or.inl ⟨_, rfl⟩) (Or.inr ⟨_, rfl⟩) B hw hM.hz hM.hc0 hr hlk dX0_keptHopes_26
/-! SecondLife$Courses.<init>(LSecondLife$Ways;)V -/
def f_X1_init (z : Sh) (h : Hp) (v0 : Nat) (v1 : Nat) : Option (Hp × Sh) :=
  if z.K v0 = 1 then
    gd2 z <|
    (nwO z h 3).bind fun (a1, h2, z3) =>
    gd2 z3 <|
    (f_X3_init z3 h2 a1 1400).bind fun (h4, z5) =>
    gd2 z5 <|
    (pR z5 h4 1 v0 1 (some a1)).bind fun h6 =>
    (nwA z5 h6 14 1400).bind fun (a7, h8, z9) =>
    gd2 z9 <|
    (pR z9 h8 1 v0 2 (some a7)).bind fun h10 =>
    (nwA z9 h10 14 1400).bind fun (a11, h12, z13) =>
    gd2 z13 <|
    (pR z13 h12 1 v0 3 (some a11)).bind fun h14 =>
    (pR z13 h14 1 v0 0 (some v1)).bind fun h15 =>
    some (h15, z13)
  else none
theorem k_X1_init {z : Sh} {h : Hp} {v0 : Nat} {v1 : Nat} {w : Hp × Sh} (hf : f_X1_init z h v0 v1 = some w) : z.K v0 = 1 := by
  unfold f_X1_init at hf
  exact (if_some hf).1
theorem mo_X1_init {z : Sh} {h : Hp} {v0 : Nat} {v1 : Nat} {h' : Hp} {zE : Sh} (hf : f_X1_init z h v0 v1 = some (h', zE)) : z.sz ≤ zE.sz ∧ z.sl ≤ zE.sl := by
  unfold f_X1_init at hf
  exact (gd2_some (if_some hf).2).1
set_option maxHeartbeats 4000000 in
theorem c_X1_init {l : Launch} {s0 : State} {E : Ev} (G : Gl s0 E) {z : Sh} {h : Hp} {v0 : Nat} {v1 : Nat} {h' : Hp} {zE : Sh} (hf : f_X1_init z h v0 v1 = some (h', zE)) : Ca l s0 E yX1_init cX1_init 2 none 2 45 [.ref v0, .ref v1] z zE h h' (none) := by
  refine Ca.of G (by decide +kernel) (Nat.le_of_ble_eq_true rfl) (mo_X1_init hf) ?_
  intro p e s m below meth c ls B hw hM hr hlk hnm0 hl
  have B : Bd p s0 s E m c cX1_init 2 RX1 := B
  have hx := B.1
  have hb := B.2.1
  have hl : lv_has ls 2 [(0, .ref v0), (1, .ref v1)] := hl
  have hin : meth.name = "<init>" := hnm0
  unfold f_X1_init at hf
  obtain ⟨_, hf⟩ := if_some hf
  obtain ⟨_, hf⟩ := gd2_some hf
  refine lv_aload_n hx hb dX1_init_0 rfl (lv_at hl 0 rfl) ?_
  refine q_obj B hl.1 tw_2_28 tw_1_29 tw_1_30 (Nat.le_of_ble_eq_true rfl) (Nat.le_of_ble_eq_true rfl) dX1_init_1 ?_
  refine lv_aload_n hx hb dX1_init_4 rfl (lv_at hl 0 rfl) ?_
  obtain ⟨⟨a1, h2, z3⟩, e, hf⟩ := ob hf
  obtain ⟨hg, hf⟩ := gd2_some hf
  refine q_newO e hg B hw hM (by decide) (ci := 3) rfl rfl tyX3 tyX3_ok dfX3 tw_2_29 tw_2_30 tw_1_10 dX1_init_5 (fun H locs hw hM => ?_)
  refine lv_dup hx hb dX1_init_8 rfl ?_
  refine lv_sipush (v := 1400) hx hb dX1_init_9 (by decide) ?_
  obtain ⟨⟨h4, z5⟩, e, hf⟩ := ob hf
  obtain ⟨hg, hf⟩ := gd2_some hf
  refine q_callINA (As := [.int 1400]) (rest := [.ref a1, .ref v0]) (c_X3_init G e) (mo_X3_init e) hg B hw hM rfl my_X3_init mv_X3_init tw_2_31 ⟨Nat.le_of_ble_eq_true rfl, Nat.le_of_ble_eq_true rfl⟩ rfl hl.1 rfl (Nat.le_of_ble_eq_true rfl) dX1_init_12 (fun H locs hw hM => ?_)
  obtain ⟨h6, e, hf⟩ := ob hf
  refine q_putRF e B hw hin fd_1_1.1 fd_1_1.2.1 fd_1_1.2.2.1 fd_1_1.2.2.2.1 fd_1_1.2.2.2.2 rfl rfl rfl (tyX1_ok 1 (by decide)) (Or.inl ⟨_, rfl⟩) tyX1 tyX1_ok nmX1 tw_2_44 dX1_init_15 (fun H locs hw => ?_)
  refine lv_aload_n hx hb dX1_init_18 rfl (lv_at hl 0 rfl) ?_
  refine lv_sipush (v := 1400) hx hb dX1_init_19 (by decide) ?_
  obtain ⟨⟨a7, h8, z9⟩, e, hf⟩ := ob hf
  obtain ⟨hg, hf⟩ := gd2_some hf
  refine q_newA (atype := .int) (ty := .int) (t0 := 1) e hg B hw hM (by decide) rfl rfl rfl (cfn_14 E _ _) arn_14 tw_1_102 dX1_init_22 (fun H locs hw hM => ?_)
  obtain ⟨h10, e, hf⟩ := ob hf
  refine q_putRF e B hw hin fd_1_2.1 fd_1_2.2.1 fd_1_2.2.2.1 fd_1_2.2.2.2.1 fd_1_2.2.2.2.2 rfl rfl rfl (tyX1_ok 2 (by decide)) (Or.inr ⟨_, rfl⟩) tyX1 tyX1_ok nmX1 tw_2_45 dX1_init_24 (fun H locs hw => ?_)
  refine lv_aload_n hx hb dX1_init_27 rfl (lv_at hl 0 rfl) ?_
  refine lv_sipush (v := 1400) hx hb dX1_init_28 (by decide) ?_
  obtain ⟨⟨a11, h12, z13⟩, e, hf⟩ := ob hf
  obtain ⟨hg, hf⟩ := gd2_some hf
  refine q_newA (atype := .int) (ty := .int) (t0 := 1) e hg B hw hM (by decide) rfl rfl rfl (cfn_14 E _ _) arn_14 tw_1_102 dX1_init_31 (fun H locs hw hM => ?_)
  obtain ⟨h14, e, hf⟩ := ob hf
  refine q_putRF e B hw hin fd_1_3.1 fd_1_3.2.1 fd_1_3.2.2.1 fd_1_3.2.2.2.1 fd_1_3.2.2.2.2 rfl rfl rfl (tyX1_ok 3 (by decide)) (Or.inr ⟨_, rfl⟩) tyX1 tyX1_ok nmX1 tw_2_46 dX1_init_33 (fun H locs hw => ?_)
  refine lv_aload_n hx hb dX1_init_36 rfl (lv_at hl 0 rfl) ?_
  refine lv_aload_n hx hb dX1_init_37 rfl (lv_at hl 1 rfl) ?_
  obtain ⟨h15, e, hf⟩ := ob hf
  refine q_putRF e B hw hin fd_1_0.1 fd_1_0.2.1 fd_1_0.2.2.1 fd_1_0.2.2.2.1 fd_1_0.2.2.2.2 rfl rfl rfl (tyX1_ok 0 (by decide)) (Or.inl ⟨_, rfl⟩) tyX1 tyX1_ok nmX1 tw_2_43 dX1_init_38 (fun H locs hw => ?_)
  obtain ⟨rfl, rfl⟩ := so2 hf
  exact q_vret B hw hM.hz hM.hc0 hr hlk dX1_init_41
/-! SecondLife$Courses.after(II)I -/
def f_X1_after (z : Sh) (h : Hp) (v0 : Nat) (v1 : Int32) (v2 : Int32) : Option (Int32) :=
  if z.K v0 = 1 then
    if v2 = 9 then
      (gR z h 1 v0 0).bind fun a4 =>
      (f_X10_afterDrawing z h a4 v1).bind fun x5 =>
      some x5
    else
      (gR z h 1 v0 0).bind fun a2 =>
      (f_X10_afterYear z h a2 v1 v2).bind fun x3 =>
      some x3
  else none
theorem k_X1_after {z : Sh} {h : Hp} {v0 : Nat} {v1 : Int32} {v2 : Int32} {w : Int32} (hf : f_X1_after z h v0 v1 v2 = some w) : z.K v0 = 1 := by
  unfold f_X1_after at hf
  exact (if_some hf).1
set_option maxHeartbeats 4000000 in
theorem c_X1_after {l : Launch} {s0 : State} {E : Ev} (G : Gl s0 E) {z : Sh} {h : Hp} {v0 : Nat} {v1 : Int32} {v2 : Int32} {r : Int32} (hf : f_X1_after z h v0 v1 v2 = some r) : Ct l s0 E yX1_after cX1_after 3 (some .int) 2 45 [.ref v0, .int v1, .int v2] z h h (some (.int r)) := by
  refine Ct.of G (by decide) (Nat.le_of_ble_eq_true rfl) ?_
  intro p e s m below meth c ls B hw hz hc0 hr hlk hl
  have B : Bd p s0 s E m c cX1_after 3 RX1 := B
  have hx := B.1
  have hb := B.2.1
  have hl : lv_has ls 3 [(0, .ref v0), (1, .int v1), (2, .int v2)] := hl
  unfold f_X1_after at hf
  obtain ⟨_, hf⟩ := if_some hf
  refine lv_iload_n hx hb dX1_after_0 rfl (lv_at hl 2 rfl) ?_
  refine lv_bipush (v := 9) hx hb dX1_after_1 (by decide) ?_
  refine lv_icmp_ne (tgt := 17) hx hb dX1_after_3 (by decide) (fun c1 => ?_) (fun c1 => ?_)
  · have hf := (if_neg c1).symm.trans hf
    refine lv_aload_n hx hb dX1_after_17 rfl (lv_at hl 0 rfl) ?_
    obtain ⟨a2, e, hf⟩ := ob hf
    refine q_getR e B hw fd_1_0.1 fd_1_0.2.1 fd_1_0.2.2.1 fd_1_0.2.2.2.1 fd_1_0.2.2.2.2 rfl tw_2_43 dX1_after_18 ?_
    refine lv_iload_n hx hb dX1_after_21 rfl (lv_at hl 1 rfl) ?_
    refine lv_iload_n hx hb dX1_after_22 rfl (lv_at hl 2 rfl) ?_
    obtain ⟨x3, e, hf⟩ := ob hf
    refine q_callVN (As := [.int v1, .int v2]) (rest := []) (st1 := [.int x3]) (c_X10_afterYear G e) B hw hz hc0 (k_X10_afterYear e) (by decide) (ci := 10) rfl rfl my_X10_afterYear mv_X10_afterYear tw_4_189 ⟨Nat.le_of_ble_eq_true rfl, Nat.le_of_ble_eq_true rfl⟩ ⟨Nat.zero_le _, Nat.zero_le _⟩ rfl hl.1 rfl rfl (Nat.le_of_ble_eq_true rfl) dX1_after_23 (fun H locs hw => ?_)
    obtain rfl := so hf
    exact q_iret B hw hz hc0 hr hlk dX1_after_26
  · have hf := (if_pos c1).symm.trans hf
    refine lv_aload_n hx hb dX1_after_6 rfl (lv_at hl 0 rfl) ?_
    obtain ⟨a4, e, hf⟩ := ob hf
    refine q_getR e B hw fd_1_0.1 fd_1_0.2.1 fd_1_0.2.2.1 fd_1_0.2.2.2.1 fd_1_0.2.2.2.2 rfl tw_2_43 dX1_after_7 ?_
    refine lv_iload_n hx hb dX1_after_10 rfl (lv_at hl 1 rfl) ?_
    obtain ⟨x5, e, hf⟩ := ob hf
    refine q_callVN (As := [.int v1]) (rest := []) (st1 := [.int x5]) (c_X10_afterDrawing G e) B hw hz hc0 (k_X10_afterDrawing e) (by decide) (ci := 10) rfl rfl my_X10_afterDrawing mv_X10_afterDrawing tw_4_223 ⟨Nat.le_of_ble_eq_true rfl, Nat.le_of_ble_eq_true rfl⟩ ⟨Nat.zero_le _, Nat.zero_le _⟩ rfl hl.1 rfl rfl (Nat.le_of_ble_eq_true rfl) dX1_after_11 (fun H locs hw => ?_)
    refine lv_goto (tgt := 26) hx hb dX1_after_14 (by decide) ?_
    obtain rfl := so hf
    exact q_iret B hw hz hc0 hr hlk dX1_after_26
/-! SecondLife$Reader.is(Ljava/lang/String;)Z -/
def f_X6_is_35 (n : Nat) (z : Sh) (h : Hp) : Nat → Nat → Nat → Int32 → Option (Int32)
  | 0, _, _, _ => none
  | i + 1, v0, v1, v2 =>
    (f_J0_length_8abf5 z h v1).bind fun x1 =>
    if x1 ≤ v2 then
      some 1
    else
      (gI z h 6 v0 4).bind fun x3 =>
      (f_X6_byteAt z h v0 (x3 + v2)).bind fun x4 =>
      (f_J0_charAt_5068e z h v1 v2).bind fun x5 =>
      if x4 = x5 then
        (some (v2 + 1)).bind fun x7 =>
        (f_X6_is_35 n z h i) v0 v1 x7
      else
        some 0
def f_X6_is_15 (n : Nat) (z : Sh) (h : Hp) (v0 : Nat) (v1 : Nat) : Option (Int32) :=
  (gI z h 6 v0 5).bind fun x1 =>
  (gI z h 6 v0 4).bind fun x2 =>
  (f_J0_length_8abf5 z h v1).bind fun x3 =>
  if (x1 - x2) = x3 then
    f_X6_is_35 n z h n v0 v1 0
  else
    some 0
def f_X6_is (n : Nat) (z : Sh) (h : Hp) (v0 : Nat) (v1 : Nat) : Option (Int32) :=
  if z.K v0 = 6 then
    (gI z h 6 v0 6).bind fun x1 =>
    if x1 = 0 then
      f_X6_is_15 n z h v0 v1
    else
      (gI z h 6 v0 6).bind fun x3 =>
      if x3 = 2 then
        f_X6_is_15 n z h v0 v1
      else
        some 0
  else none
theorem k_X6_is {n : Nat} {z : Sh} {h : Hp} {v0 : Nat} {v1 : Nat} {w : Int32} (hf : f_X6_is n z h v0 v1 = some w) : z.K v0 = 6 := by
  unfold f_X6_is at hf
  exact (if_some hf).1
set_option maxHeartbeats 4000000 in
theorem w_X6_is_35 {p : Program} {l : Launch} {e : Env} {s : State} {m : MethodId} {args : Array Value} {below : List Frame} {meth : Method} {c : Code} {s0 : State} {E : Ev} {z : Sh} {h : Hp} {n : Nat} {r : Int32} (G : Gl s0 E) (B : Bd p s0 s E m c cX6_is 3 RX6) (hz : s0.heap.size ≤ z.sz) (hc0 : s.heap.size + 0 = z.sz) (hr : meth.sig.returnType = (some .boolean)) (hlk : meth.locks = false) : ∀ (i : Nat), ∀ (v0 : Nat) (v1 : Nat) (v2 : Int32) (H : Heap) (locs : List Loc) (ls : Array Slot), Pw s0 s E z h H locs → lv_has ls 3 [(0, .ref v0), (1, .ref v1), (2, .int v2)] → f_X6_is_35 n z h i v0 v1 v2 = some r → W p l e (rmO 2 41) s m args below meth c H locs 0 0 (Zt below s0 E z h (some (.int r)) args s 0 0) (F0 m 35 ls []) := by
  have hx := B.1
  have hb := B.2.1
  intro i
  induction i with
  | zero =>
    intro v0 v1 v2 H locs ls hw hl hf
    have hf := (f_X6_is_35.eq_1 ..).symm.trans hf
    cases hf
  | succ i ih =>
    intro v0 v1 v2 H locs ls hw hl hf
    have hf := (f_X6_is_35.eq_2 ..).symm.trans hf
    refine lv_iload_n hx hb dX6_is_35 rfl (lv_at hl 2 rfl) ?_
    refine lv_aload_n hx hb dX6_is_36 rfl (lv_at hl 1 rfl) ?_
    obtain ⟨x1, e, hf⟩ := ob hf
    refine q_callVS (As := []) (rest := [.int v2]) (st1 := [.int x1, .int v2]) (c_J0_length_8abf5 G e) B hw hz hc0 (k_J0_length_8abf5 e) rfl my_J0_length_8abf5 mv_J0_length_8abf5 tw_3_50 ⟨Nat.le_of_ble_eq_true rfl, Nat.le_of_ble_eq_true rfl⟩ ⟨Nat.zero_le _, Nat.zero_le _⟩ rfl hl.1 rfl rfl (Nat.le_of_ble_eq_true rfl) dX6_is_37 (fun H locs hw => ?_)
    refine lv_icmp_ge (tgt := 69) hx hb dX6_is_40 (by decide) (fun c2 => ?_) (fun c2 => ?_)
    · have hf := (if_pos c2).symm.trans hf
      refine lv_iconst (v := 1) hx hb dX6_is_69 (by decide) ?_
      obtain rfl := so hf
      exact q_zret (Or.inr rfl) B hw hz hc0 hr hlk dX6_is_70
    · have hf := (if_neg c2).symm.trans hf
      refine lv_aload_n hx hb dX6_is_43 rfl (lv_at hl 0 rfl) ?_
      refine lv_aload_n hx hb dX6_is_44 rfl (lv_at hl 0 rfl) ?_
      obtain ⟨x3, e, hf⟩ := ob hf
      refine q_getI e B hw fd_6_4.1 fd_6_4.2.1 fd_6_4.2.2.1 fd_6_4.2.2.2.1 fd_6_4.2.2.2.2 rfl tw_1_109 dX6_is_45 ?_
      refine lv_iload_n hx hb dX6_is_48 rfl (lv_at hl 2 rfl) ?_
      refine lv_iadd hx hb dX6_is_49 ?_
      obtain ⟨x4, e, hf⟩ := ob hf
      refine q_callV (As := [.int (x3 + v2)]) (rest := []) (st1 := [.int x4]) (c_X6_byteAt G e) B hw hz hc0 (k_X6_byteAt e) (by decide) (ci := 6) rfl rfl my_X6_byteAt mv_X6_byteAt tw_2_175 ⟨Nat.le_of_ble_eq_true rfl, Nat.le_of_ble_eq_true rfl⟩ ⟨Nat.zero_le _, Nat.zero_le _⟩ rfl hl.1 rfl rfl (Nat.le_of_ble_eq_true rfl) dX6_is_50 (fun H locs hw => ?_)
      refine lv_aload_n hx hb dX6_is_53 rfl (lv_at hl 1 rfl) ?_
      refine lv_iload_n hx hb dX6_is_54 rfl (lv_at hl 2 rfl) ?_
      obtain ⟨x5, e, hf⟩ := ob hf
      refine q_callVS (As := [.int v2]) (rest := [.int x4]) (st1 := [.int x5, .int x4]) (c_J0_charAt_5068e G e) B hw hz hc0 (k_J0_charAt_5068e e) rfl my_J0_charAt_5068e mv_J0_charAt_5068e tw_3_51 ⟨Nat.le_of_ble_eq_true rfl, Nat.le_of_ble_eq_true rfl⟩ ⟨Nat.zero_le _, Nat.zero_le _⟩ rfl hl.1 rfl rfl (Nat.le_of_ble_eq_true rfl) dX6_is_55 (fun H locs hw => ?_)
      refine lv_icmp_eq (tgt := 63) hx hb dX6_is_58 (by decide) (fun c6 => ?_) (fun c6 => ?_)
      · have hf := (if_pos c6).symm.trans hf
        obtain ⟨x7, e, hf⟩ := ob hf
        refine lv_iinc (v := x7) (lv' := [(2, .int x7), (0, .ref v0), (1, .ref v1)]) hx hb dX6_is_63 hl (k := 2) rfl (Option.some.inj e) (by decide) rfl (fun ls hl => ?_)
        refine lv_goto (tgt := 35) hx hb dX6_is_66 (by decide) ?_
        exact ih v0 v1 x7 _ _ _ hw (lv_sub hl [1, 2, 0] rfl) hf
      · have hf := (if_neg c6).symm.trans hf
        refine lv_iconst (v := 0) hx hb dX6_is_61 (by decide) ?_
        obtain rfl := so hf
        exact q_zret (Or.inl rfl) B hw hz hc0 hr hlk dX6_is_62
set_option maxHeartbeats 4000000 in
theorem w_X6_is_15 {p : Program} {l : Launch} {e : Env} {s : State} {m : MethodId} {args : Array Value} {below : List Frame} {meth : Method} {c : Code} {s0 : State} {E : Ev} {z : Sh} {h : Hp} {n : Nat} {r : Int32} (G : Gl s0 E) (B : Bd p s0 s E m c cX6_is 3 RX6) (hz : s0.heap.size ≤ z.sz) (hc0 : s.heap.size + 0 = z.sz) (hr : meth.sig.returnType = (some .boolean)) (hlk : meth.locks = false) : ∀ (v0 : Nat) (v1 : Nat) (H : Heap) (locs : List Loc) (ls : Array Slot), Pw s0 s E z h H locs → lv_has ls 3 [(0, .ref v0), (1, .ref v1)] → f_X6_is_15 n z h v0 v1 = some r → W p l e (rmO 2 41) s m args below meth c H locs 0 0 (Zt below s0 E z h (some (.int r)) args s 0 0) (F0 m 15 ls []) := by
  have hx := B.1
  have hb := B.2.1
  intro v0 v1 H locs ls hw hl hf
  unfold f_X6_is_15 at hf
  refine lv_aload_n hx hb dX6_is_15 rfl (lv_at hl 0 rfl) ?_
  obtain ⟨x1, e, hf⟩ := ob hf
  refine q_getI e B hw fd_6_5.1 fd_6_5.2.1 fd_6_5.2.2.1 fd_6_5.2.2.2.1 fd_6_5.2.2.2.2 rfl tw_1_110 dX6_is_16 ?_
  refine lv_aload_n hx hb dX6_is_19 rfl (lv_at hl 0 rfl) ?_
  obtain ⟨x2, e, hf⟩ := ob hf
  refine q_getI e B hw fd_6_4.1 fd_6_4.2.1 fd_6_4.2.2.1 fd_6_4.2.2.2.1 fd_6_4.2.2.2.2 rfl tw_1_109 dX6_is_20 ?_
  refine lv_isub hx hb dX6_is_23 ?_
  refine lv_aload_n hx hb dX6_is_24 rfl (lv_at hl 1 rfl) ?_
  obtain ⟨x3, e, hf⟩ := ob hf
  refine q_callVS (As := []) (rest := [.int (x1 - x2)]) (st1 := [.int x3, .int (x1 - x2)]) (c_J0_length_8abf5 G e) B hw hz hc0 (k_J0_length_8abf5 e) rfl my_J0_length_8abf5 mv_J0_length_8abf5 tw_3_50 ⟨Nat.le_of_ble_eq_true rfl, Nat.le_of_ble_eq_true rfl⟩ ⟨Nat.zero_le _, Nat.zero_le _⟩ rfl hl.1 rfl rfl (Nat.le_of_ble_eq_true rfl) dX6_is_25 (fun H locs hw => ?_)
  refine lv_icmp_eq (tgt := 33) hx hb dX6_is_28 (by decide) (fun c4 => ?_) (fun c4 => ?_)
  · have hf := (if_pos c4).symm.trans hf
    refine lv_iconst (v := 0) hx hb dX6_is_33 (by decide) ?_
    refine lv_istore_n (lv' := [(2, .int 0), (0, .ref v0), (1, .ref v1)]) hx hb dX6_is_34 rfl hl (by decide) rfl (fun ls hl => ?_)
    exact w_X6_is_35 G B hz hc0 hr hlk  n v0 v1 0 _ _ _ hw (lv_sub hl [1, 2, 0] rfl) hf
  · have hf := (if_neg c4).symm.trans hf
    refine lv_iconst (v := 0) hx hb dX6_is_31 (by decide) ?_
    obtain rfl := so hf
    exact q_zret (Or.inl rfl) B hw hz hc0 hr hlk dX6_is_32
set_option maxHeartbeats 4000000 in
theorem c_X6_is {l : Launch} {s0 : State} {E : Ev} (G : Gl s0 E) {n : Nat} {z : Sh} {h : Hp} {v0 : Nat} {v1 : Nat} {r : Int32} (hf : f_X6_is n z h v0 v1 = some r) : Ct l s0 E yX6_is cX6_is 3 (some .boolean) 2 41 [.ref v0, .ref v1] z h h (some (.int r)) := by
  refine Ct.of G (by decide) (Nat.le_of_ble_eq_true rfl) ?_
  intro p e s m below meth c ls B hw hz hc0 hr hlk hl
  have B : Bd p s0 s E m c cX6_is 3 RX6 := B
  have hx := B.1
  have hb := B.2.1
  have hl : lv_has ls 3 [(0, .ref v0), (1, .ref v1)] := hl
  unfold f_X6_is at hf
  obtain ⟨_, hf⟩ := if_some hf
  refine lv_aload_n hx hb dX6_is_0 rfl (lv_at hl 0 rfl) ?_
  obtain ⟨x1, e, hf⟩ := ob hf
  refine q_getI e B hw fd_6_6.1 fd_6_6.2.1 fd_6_6.2.2.1 fd_6_6.2.2.2.1 fd_6_6.2.2.2.2 rfl tw_1_111 dX6_is_1 ?_
  refine lv_if_eq (tgt := 15) hx hb dX6_is_4 (by decide) (fun c2 => ?_) (fun c2 => ?_)
  · have hf := (if_pos c2).symm.trans hf
    exact w_X6_is_15 G B hz hc0 hr hlk  v0 v1 _ _ _ hw (lv_sub hl [0, 1] rfl) hf
  · have hf := (if_neg c2).symm.trans hf
    refine lv_aload_n hx hb dX6_is_7 rfl (lv_at hl 0 rfl) ?_
    obtain ⟨x3, e, hf⟩ := ob hf
    refine q_getI e B hw fd_6_6.1 fd_6_6.2.1 fd_6_6.2.2.1 fd_6_6.2.2.2.1 fd_6_6.2.2.2.2 rfl tw_1_111 dX6_is_8 ?_
    refine lv_iconst (v := 2) hx hb dX6_is_11 (by decide) ?_
    refine lv_icmp_ne (tgt := 31) hx hb dX6_is_12 (by decide) (fun c4 => ?_) (fun c4 => ?_)
    · have hf := (if_neg c4).symm.trans hf
      refine lv_iconst (v := 0) hx hb dX6_is_31 (by decide) ?_
      obtain rfl := so hf
      exact q_zret (Or.inl rfl) B hw hz hc0 hr hlk dX6_is_32
    · have hf := (if_pos c4).symm.trans hf
      exact w_X6_is_15 G B hz hc0 hr hlk  v0 v1 _ _ _ hw (lv_sub hl [0, 1] rfl) hf
/-! SecondLife$Reckoner.worthOf(LSecondLife$Town;I)I -/
def f_X7_worthOf (n : Nat) (z : Sh) (h : Hp) (v0 : Nat) (v1 : Nat) (v2 : Int32) : Option (Int32 × Hp) :=
  if z.K v0 = 7 then
    (gR z h 7 v0 0).bind fun a1 =>
    (stI z h a1 2 v2).bind fun h2 =>
    (gR z h2 8 v1 8).bind fun a3 =>
    (f_X7_tell n z h2 v0 a3).bind fun (x4, h5) =>
    (f_X11_within z h5 x4 (-9) 9).bind fun x6 =>
    some (x6, h5)
  else none
theorem k_X7_worthOf {n : Nat} {z : Sh} {h : Hp} {v0 : Nat} {v1 : Nat} {v2 : Int32} {w : Int32 × Hp} (hf : f_X7_worthOf n z h v0 v1 v2 = some w) : z.K v0 = 7 := by
  unfold f_X7_worthOf at hf
  exact (if_some hf).1
set_option maxHeartbeats 4000000 in
theorem c_X7_worthOf {l : Launch} {s0 : State} {E : Ev} (G : Gl s0 E) {n : Nat} {z : Sh} {h : Hp} {v0 : Nat} {v1 : Nat} {v2 : Int32} {r : Int32} {h' : Hp} (hf : f_X7_worthOf n z h v0 v1 v2 = some (r, h')) : Ct l s0 E yX7_worthOf cX7_worthOf 3 (some .int) 3 70 [.ref v0, .ref v1, .int v2] z h h' (some (.int r)) := by
  refine Ct.of G (by decide) (Nat.le_of_ble_eq_true rfl) ?_
  intro p e s m below meth c ls B hw hz hc0 hr hlk hl
  have B : Bd p s0 s E m c cX7_worthOf 3 RX7 := B
  have hx := B.1
  have hb := B.2.1
  have hl : lv_has ls 3 [(0, .ref v0), (1, .ref v1), (2, .int v2)] := hl
  unfold f_X7_worthOf at hf
  obtain ⟨_, hf⟩ := if_some hf
  refine lv_aload_n hx hb dX7_worthOf_0 rfl (lv_at hl 0 rfl) ?_
  obtain ⟨a1, e, hf⟩ := ob hf
  refine q_getR e B hw fd_7_0.1 fd_7_0.2.1 fd_7_0.2.2.1 fd_7_0.2.2.2.1 fd_7_0.2.2.2.2 rfl tw_1_192 dX7_worthOf_1 ?_
  refine lv_iconst (v := 2) hx hb dX7_worthOf_4 (by decide) ?_
  refine lv_iload_n hx hb dX7_worthOf_5 rfl (lv_at hl 2 rfl) ?_
  obtain ⟨h2, e, hf⟩ := ob hf
  refine q_stI e B hw dX7_worthOf_6 (fun H locs hw => ?_)
  refine lv_aload_n hx hb dX7_worthOf_7 rfl (lv_at hl 0 rfl) ?_
  refine lv_aload_n hx hb dX7_worthOf_8 rfl (lv_at hl 1 rfl) ?_
  obtain ⟨a3, e, hf⟩ := ob hf
  refine q_getRN e B hw fd_8_8.1 fd_8_8.2.1 fd_8_8.2.2.1 fd_8_8.2.2.2.1 fd_8_8.2.2.2.2 rfl tw_1_75 dX7_worthOf_9 ?_
  obtain ⟨⟨x4, h5⟩, e, hf⟩ := ob hf
  refine q_callV (As := [.ref a3]) (rest := []) (st1 := [.int x4]) (c_X7_tell G e) B hw hz hc0 (k_X7_tell e) (by decide) (ci := 7) rfl rfl my_X7_tell mv_X7_tell tw_3_239 ⟨Nat.le_of_ble_eq_true rfl, Nat.le_of_ble_eq_true rfl⟩ ⟨Nat.zero_le _, Nat.zero_le _⟩ rfl hl.1 rfl rfl (Nat.le_of_ble_eq_true rfl) dX7_worthOf_12 (fun H locs hw => ?_)
  refine lv_bipush (v := (-9)) hx hb dX7_worthOf_15 (by decide) ?_
  refine lv_bipush (v := 9) hx hb dX7_worthOf_17 (by decide) ?_
  obtain ⟨x6, e, hf⟩ := ob hf
  refine q_callSN (As := [.int x4, .int (-9), .int 9]) (rest := []) (st1 := [.int x6]) (c_X11_within G e) B hw hz hc0 my_X11_within mv_X11_within tw_4_12 ⟨Nat.le_of_ble_eq_true rfl, Nat.le_of_ble_eq_true rfl⟩ ⟨Nat.zero_le _, Nat.zero_le _⟩ rfl hl.1 rfl rfl (Nat.le_of_ble_eq_true rfl) dX7_worthOf_19 (fun H locs hw => ?_)
  obtain ⟨rfl, rfl⟩ := so2 hf
  exact q_iret B hw hz hc0 hr hlk dX7_worthOf_22
/-! SecondLife$Reckoner.grownOf(LSecondLife$Town;)I -/
def f_X7_grownOf (n : Nat) (z : Sh) (h : Hp) (v0 : Nat) (v1 : Nat) : Option (Int32 × Hp) :=
  if z.K v0 = 7 then
    (gR z h 8 v1 9).bind fun a1 =>
    (f_X7_tell n z h v0 a1).bind fun (x2, h3) =>
    (gI z h3 8 v1 0).bind fun x4 =>
    (f_X11_within z h3 x2 0 x4).bind fun x5 =>
    some (x5, h3)
  else none
theorem k_X7_grownOf {n : Nat} {z : Sh} {h : Hp} {v0 : Nat} {v1 : Nat} {w : Int32 × Hp} (hf : f_X7_grownOf n z h v0 v1 = some w) : z.K v0 = 7 := by
  unfold f_X7_grownOf at hf
  exact (if_some hf).1
set_option maxHeartbeats 4000000 in
theorem c_X7_grownOf {l : Launch} {s0 : State} {E : Ev} (G : Gl s0 E) {n : Nat} {z : Sh} {h : Hp} {v0 : Nat} {v1 : Nat} {r : Int32} {h' : Hp} (hf : f_X7_grownOf n z h v0 v1 = some (r, h')) : Ct l s0 E yX7_grownOf cX7_grownOf 2 (some .int) 3 70 [.ref v0, .ref v1] z h h' (some (.int r)) := by
  refine Ct.of G (by decide) (Nat.le_of_ble_eq_true rfl) ?_
  intro p e s m below meth c ls B hw hz hc0 hr hlk hl
  have B : Bd p s0 s E m c cX7_grownOf 2 RX7 := B
  have hx := B.1
  have hb := B.2.1
  have hl : lv_has ls 2 [(0, .ref v0), (1, .ref v1)] := hl
  unfold f_X7_grownOf at hf
  obtain ⟨_, hf⟩ := if_some hf
  refine lv_aload_n hx hb dX7_grownOf_0 rfl (lv_at hl 0 rfl) ?_
  refine lv_aload_n hx hb dX7_grownOf_1 rfl (lv_at hl 1 rfl) ?_
  obtain ⟨a1, e, hf⟩ := ob hf
  refine q_getRN e B hw fd_8_9.1 fd_8_9.2.1 fd_8_9.2.2.1 fd_8_9.2.2.2.1 fd_8_9.2.2.2.2 rfl tw_1_78 dX7_grownOf_2 ?_
  obtain ⟨⟨x2, h3⟩, e, hf⟩ := ob hf
  refine q_callV (As := [.ref a1]) (rest := []) (st1 := [.int x2]) (c_X7_tell G e) B hw hz hc0 (k_X7_tell e) (by decide) (ci := 7) rfl rfl my_X7_tell mv_X7_tell tw_3_239 ⟨Nat.le_of_ble_eq_true rfl, Nat.le_of_ble_eq_true rfl⟩ ⟨Nat.zero_le _, Nat.zero_le _⟩ rfl hl.1 rfl rfl (Nat.le_of_ble_eq_true rfl) dX7_grownOf_5 (fun H locs hw => ?_)
  refine lv_iconst (v := 0) hx hb dX7_grownOf_8 (by decide) ?_
  refine lv_aload_n hx hb dX7_grownOf_9 rfl (lv_at hl 1 rfl) ?_
  obtain ⟨x4, e, hf⟩ := ob hf
  refine q_getIN e B hw fd_8_0.1 fd_8_0.2.1 fd_8_0.2.2.1 fd_8_0.2.2.2.1 fd_8_0.2.2.2.2 rfl tw_1_50 dX7_grownOf_10 ?_
  obtain ⟨x5, e, hf⟩ := ob hf
  refine q_callSN (As := [.int x2, .int 0, .int x4]) (rest := []) (st1 := [.int x5]) (c_X11_within G e) B hw hz hc0 my_X11_within mv_X11_within tw_4_12 ⟨Nat.le_of_ble_eq_true rfl, Nat.le_of_ble_eq_true rfl⟩ ⟨Nat.zero_le _, Nat.zero_le _⟩ rfl hl.1 rfl rfl (Nat.le_of_ble_eq_true rfl) dX7_grownOf_13 (fun H locs hw => ?_)
  obtain ⟨rfl, rfl⟩ := so2 hf
  exact q_iret B hw hz hc0 hr hlk dX7_grownOf_16
