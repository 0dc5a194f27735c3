/-! SecondLife$Reader.next()V -/
def f_X6_next_102 (n : Nat) (z : Sh) : Nat → Hp → Nat → Option (Hp)
  | 0, _, _ => none
  | i + 1, h, v0 =>
    (gI z h 6 v0 5).bind fun x1 =>
    (gI z h 6 v0 3).bind fun x2 =>
    if x2 ≤ x1 then
      some h
    else
      (gI z h 6 v0 5).bind fun x4 =>
      (f_X6_byteAt z h v0 x4).bind fun x5 =>
      (f_X6_isLetter z h x5).bind fun x6 =>
      if x6 = 0 then
        some h
      else
        (gI z h 6 v0 5).bind fun x8 =>
        (pI z h 6 v0 5 (x8 + 1)).bind fun h9 =>
        (f_X6_next_102 n z i) h9 v0
def f_X6_next_46 (n : Nat) (z : Sh) (h : Hp) (v0 : Nat) : Option (Hp) :=
  (gI z h 6 v0 4).bind fun x1 =>
  (gI z h 6 v0 3).bind fun x2 =>
  if x1 < x2 then
    (gI z h 6 v0 4).bind fun x4 =>
    (pI z h 6 v0 5 (x4 + 1)).bind fun h5 =>
    (gI z h5 6 v0 4).bind fun x6 =>
    (f_X6_byteAt z h5 v0 x6).bind fun x7 =>
    (f_X6_isLetter z h5 x7).bind fun x8 =>
    if x8 = 0 then
      (f_X6_isDigit z h5 x7).bind fun x10 =>
      if x10 = 0 then
        (f_J0_indexOf_0f7a4 n z h5 (z.st 10) ((Int32.toUInt32 x7 % 65536).toInt32)).bind fun x12 =>
        if x12 < 0 then
          (pI z h5 6 v0 6 4).bind fun h14 =>
          some h14
        else
          (pI z h5 6 v0 6 2).bind fun h15 =>
          some h15
      else
        (f_X6_readDigits n z h5 v0).bind fun h16 =>
        some h16
    else
      (pI z h5 6 v0 6 0).bind fun h17 =>
      f_X6_next_102 n z n h17 v0
  else
    (gI z h 6 v0 4).bind fun x18 =>
    (pI z h 6 v0 5 x18).bind fun h19 =>
    (pI z h19 6 v0 6 3).bind fun h20 =>
    some h20
def f_X6_next_8 (n : Nat) (z : Sh) : Nat → Hp → Nat → Option (Hp)
  | 0, _, _ => none
  | i + 1, h, v0 =>
    (gI z h 6 v0 4).bind fun x1 =>
    (gI z h 6 v0 3).bind fun x2 =>
    if x2 ≤ x1 then
      f_X6_next_46 n z h v0
    else
      (gI z h 6 v0 4).bind fun x4 =>
      (f_X6_byteAt z h v0 x4).bind fun x5 =>
      (f_X6_isBlank z h x5).bind fun x6 =>
      if x6 = 0 then
        f_X6_next_46 n z h v0
      else
        (gI z h 6 v0 4).bind fun x8 =>
        (pI z h 6 v0 4 (x8 + 1)).bind fun h9 =>
        (f_X6_next_8 n z i) h9 v0
def f_X6_next (n : Nat) (z : Sh) (h : Hp) (v0 : Nat) : Option (Hp) :=
  if z.K v0 = 6 then
    (gI z h 6 v0 5).bind fun x1 =>
    (pI z h 6 v0 4 x1).bind fun h2 =>
    f_X6_next_8 n z n h2 v0
  else none
theorem k_X6_next {n : Nat} {z : Sh} {h : Hp} {v0 : Nat} {w : Hp} (hf : f_X6_next n z h v0 = some w) : z.K v0 = 6 := by
  unfold f_X6_next at hf
  exact (if_some hf).1
set_option maxHeartbeats 4000000 in
theorem w_X6_next_102 {p : Program} {l : Launch} {e : Env} {s : State} {m : MethodId} {args : Array Value} {below : List Frame} {meth : Method} {c : Code} {s0 : State} {E : Ev} {z : Sh} {n : Nat} {h' : Hp} (G : Gl s0 E) (B : Bd p s0 s E m c cX6_next 2 RX6) (hz : s0.heap.size ≤ z.sz) (hc0 : s.heap.size + 0 = z.sz) (hr : meth.sig.returnType = none) (hlk : meth.locks = false) : ∀ (i : Nat), ∀ (h : Hp) (v0 : Nat) (H : Heap) (locs : List Loc) (ls : Array Slot), Pw s0 s E z h H locs → lv_has ls 2 [(0, .ref v0)] → f_X6_next_102 n z i h v0 = some h' → W p l e (rmO 4 91) s m args below meth c H locs 0 0 (Zt below s0 E z h' (none) args s 0 0) (F0 m 102 ls []) := by
  have hx := B.1
  have hb := B.2.1
  intro i
  induction i with
  | zero =>
    intro h v0 H locs ls hw hl hf
    have hf := (f_X6_next_102.eq_1 ..).symm.trans hf
    cases hf
  | succ i ih =>
    intro h v0 H locs ls hw hl hf
    have hf := (f_X6_next_102.eq_2 ..).symm.trans hf
    refine lv_aload_n hx hb dX6_next_102 rfl (lv_at hl 0 rfl) ?_
    obtain ⟨x1, e, hf⟩ := ob hf
    refine q_getI e B hw fd_6_5.1 fd_6_5.2.1 fd_6_5.2.2.1 fd_6_5.2.2.2.1 fd_6_5.2.2.2.2 rfl tw_1_110 dX6_next_103 ?_
    refine lv_aload_n hx hb dX6_next_106 rfl (lv_at hl 0 rfl) ?_
    obtain ⟨x2, e, hf⟩ := ob hf
    refine q_getI e B hw fd_6_3.1 fd_6_3.2.1 fd_6_3.2.2.1 fd_6_3.2.2.2.1 fd_6_3.2.2.2.2 rfl tw_1_108 dX6_next_107 ?_
    refine lv_icmp_ge (tgt := 173) hx hb dX6_next_110 (by decide) (fun c3 => ?_) (fun c3 => ?_)
    · have hf := (if_pos c3).symm.trans hf
      obtain rfl := so hf
      exact q_vret B hw hz hc0 hr hlk dX6_next_173
    · have hf := (if_neg c3).symm.trans hf
      refine lv_aload_n hx hb dX6_next_113 rfl (lv_at hl 0 rfl) ?_
      refine lv_aload_n hx hb dX6_next_114 rfl (lv_at hl 0 rfl) ?_
      obtain ⟨x4, e, hf⟩ := ob hf
      refine q_getI e B hw fd_6_5.1 fd_6_5.2.1 fd_6_5.2.2.1 fd_6_5.2.2.2.1 fd_6_5.2.2.2.2 rfl tw_1_110 dX6_next_115 ?_
      obtain ⟨x5, e, hf⟩ := ob hf
      refine q_callV (As := [.int x4]) (rest := []) (st1 := [.int x5]) (c_X6_byteAt G e) B hw hz hc0 (k_X6_byteAt e) (by decide) (ci := 6) rfl rfl my_X6_byteAt mv_X6_byteAt tw_2_175 ⟨Nat.le_of_ble_eq_true rfl, Nat.le_of_ble_eq_true rfl⟩ ⟨Nat.zero_le _, Nat.zero_le _⟩ rfl hl.1 rfl rfl (Nat.le_of_ble_eq_true rfl) dX6_next_118 (fun H locs hw => ?_)
      obtain ⟨x6, e, hf⟩ := ob hf
      refine q_callS (As := [.int x5]) (rest := []) (st1 := [.int x6]) (c_X6_isLetter G e) B hw hz hc0 my_X6_isLetter mv_X6_isLetter tw_2_182 ⟨Nat.le_of_ble_eq_true rfl, Nat.le_of_ble_eq_true rfl⟩ ⟨Nat.zero_le _, Nat.zero_le _⟩ rfl hl.1 rfl rfl (Nat.le_of_ble_eq_true rfl) dX6_next_121 (fun H locs hw => ?_)
      refine lv_if_eq (tgt := 173) hx hb dX6_next_124 (by decide) (fun c7 => ?_) (fun c7 => ?_)
      · have hf := (if_pos c7).symm.trans hf
        obtain rfl := so hf
        exact q_vret B hw hz hc0 hr hlk dX6_next_173
      · have hf := (if_neg c7).symm.trans hf
        refine lv_aload_n hx hb dX6_next_127 rfl (lv_at hl 0 rfl) ?_
        refine lv_dup hx hb dX6_next_128 rfl ?_
        obtain ⟨x8, e, hf⟩ := ob hf
        refine q_getI e B hw fd_6_5.1 fd_6_5.2.1 fd_6_5.2.2.1 fd_6_5.2.2.2.1 fd_6_5.2.2.2.2 rfl tw_1_110 dX6_next_129 ?_
        refine lv_iconst (v := 1) hx hb dX6_next_132 (by decide) ?_
        refine lv_iadd hx hb dX6_next_133 ?_
        obtain ⟨h9, e, hf⟩ := ob hf
        refine q_putI e B hw fd_6_5.1 fd_6_5.2.1 fd_6_5.2.2.1 fd_6_5.2.2.2.1 fd_6_5.2.2.2.2 rfl rfl (tyX6_ok 5 (by decide)) tyX6 tyX6_ok nmX6 tw_1_110 dX6_next_134 (fun H locs hw => ?_)
        refine lv_goto (tgt := 102) hx hb dX6_next_137 (by decide) ?_
        exact ih h9 v0 _ _ _ hw (lv_sub hl [0] rfl) hf
set_option maxHeartbeats 4000000 in
theorem w_X6_next_46 {p : Program} {l : Launch} {e : Env} {s : State} {m : MethodId} {args : Array Value} {below : List Frame} {meth : Method} {c : Code} {s0 : State} {E : Ev} {z : Sh} {n : Nat} {h' : Hp} (G : Gl s0 E) (B : Bd p s0 s E m c cX6_next 2 RX6) (hz : s0.heap.size ≤ z.sz) (hc0 : s.heap.size + 0 = z.sz) (hr : meth.sig.returnType = none) (hlk : meth.locks = false) : ∀ (h : Hp) (v0 : Nat) (H : Heap) (locs : List Loc) (ls : Array Slot), Pw s0 s E z h H locs → lv_has ls 2 [(0, .ref v0)] → f_X6_next_46 n z h v0 = some h' → W p l e (rmO 4 91) s m args below meth c H locs 0 0 (Zt below s0 E z h' (none) args s 0 0) (F0 m 46 ls []) := by
  have hx := B.1
  have hb := B.2.1
  intro h v0 H locs ls hw hl hf
  unfold f_X6_next_46 at hf
  refine lv_aload_n hx hb dX6_next_46 rfl (lv_at hl 0 rfl) ?_
  obtain ⟨x1, e, hf⟩ := ob hf
  refine q_getI e B hw fd_6_4.1 fd_6_4.2.1 fd_6_4.2.2.1 fd_6_4.2.2.2.1 fd_6_4.2.2.2.2 rfl tw_1_109 dX6_next_47 ?_
  refine lv_aload_n hx hb dX6_next_50 rfl (lv_at hl 0 rfl) ?_
  obtain ⟨x2, e, hf⟩ := ob hf
  refine q_getI e B hw fd_6_3.1 fd_6_3.2.1 fd_6_3.2.2.1 fd_6_3.2.2.2.1 fd_6_3.2.2.2.2 rfl tw_1_108 dX6_next_51 ?_
  refine lv_icmp_lt (tgt := 71) hx hb dX6_next_54 (by decide) (fun c3 => ?_) (fun c3 => ?_)
  · have hf := (if_pos c3).symm.trans hf
    refine lv_aload_n hx hb dX6_next_71 rfl (lv_at hl 0 rfl) ?_
    refine lv_aload_n hx hb dX6_next_72 rfl (lv_at hl 0 rfl) ?_
    obtain ⟨x4, e, hf⟩ := ob hf
    refine q_getI e B hw fd_6_4.1 fd_6_4.2.1 fd_6_4.2.2.1 fd_6_4.2.2.2.1 fd_6_4.2.2.2.2 rfl tw_1_109 dX6_next_73 ?_
    refine lv_iconst (v := 1) hx hb dX6_next_76 (by decide) ?_
    refine lv_iadd hx hb dX6_next_77 ?_
    obtain ⟨h5, e, hf⟩ := ob hf
    refine q_putI e B hw fd_6_5.1 fd_6_5.2.1 fd_6_5.2.2.1 fd_6_5.2.2.2.1 fd_6_5.2.2.2.2 rfl rfl (tyX6_ok 5 (by decide)) tyX6 tyX6_ok nmX6 tw_1_110 dX6_next_78 (fun H locs hw => ?_)
    refine lv_aload_n hx hb dX6_next_81 rfl (lv_at hl 0 rfl) ?_
    refine lv_aload_n hx hb dX6_next_82 rfl (lv_at hl 0 rfl) ?_
    obtain ⟨x6, e, hf⟩ := ob hf
    refine q_getI e B hw fd_6_4.1 fd_6_4.2.1 fd_6_4.2.2.1 fd_6_4.2.2.2.1 fd_6_4.2.2.2.2 rfl tw_1_109 dX6_next_83 ?_
    obtain ⟨x7, e, hf⟩ := ob hf
    refine q_callV (As := [.int x6]) (rest := []) (st1 := [.int x7]) (c_X6_byteAt G e) B hw hz hc0 (k_X6_byteAt e) (by decide) (ci := 6) rfl rfl my_X6_byteAt mv_X6_byteAt tw_2_175 ⟨Nat.le_of_ble_eq_true rfl, Nat.le_of_ble_eq_true rfl⟩ ⟨Nat.zero_le _, Nat.zero_le _⟩ rfl hl.1 rfl rfl (Nat.le_of_ble_eq_true rfl) dX6_next_86 (fun H locs hw => ?_)
    refine lv_istore_n (lv' := [(1, .int x7), (0, .ref v0)]) hx hb dX6_next_89 rfl hl (by decide) rfl (fun ls hl => ?_)
    refine lv_iload_n hx hb dX6_next_90 rfl (lv_at hl 0 rfl) ?_
    obtain ⟨x8, e, hf⟩ := ob hf
    refine q_callS (As := [.int x7]) (rest := []) (st1 := [.int x8]) (c_X6_isLetter G e) B hw hz hc0 my_X6_isLetter mv_X6_isLetter tw_2_182 ⟨Nat.le_of_ble_eq_true rfl, Nat.le_of_ble_eq_true rfl⟩ ⟨Nat.zero_le _, Nat.zero_le _⟩ rfl hl.1 rfl rfl (Nat.le_of_ble_eq_true rfl) dX6_next_91 (fun H locs hw => ?_)
    refine lv_if_eq (tgt := 140) hx hb dX6_next_94 (by decide) (fun c9 => ?_) (fun c9 => ?_)
    · have hf := (if_pos c9).symm.trans hf
      refine lv_iload_n hx hb dX6_next_140 rfl (lv_at hl 0 rfl) ?_
      obtain ⟨x10, e, hf⟩ := ob hf
      refine q_callS (As := [.int x7]) (rest := []) (st1 := [.int x10]) (c_X6_isDigit G e) B hw hz hc0 my_X6_isDigit mv_X6_isDigit tw_2_185 ⟨Nat.le_of_ble_eq_true rfl, Nat.le_of_ble_eq_true rfl⟩ ⟨Nat.zero_le _, Nat.zero_le _⟩ rfl hl.1 rfl rfl (Nat.le_of_ble_eq_true rfl) dX6_next_141 (fun H locs hw => ?_)
      refine lv_if_eq (tgt := 154) hx hb dX6_next_144 (by decide) (fun c11 => ?_) (fun c11 => ?_)
      · have hf := (if_pos c11).symm.trans hf
        refine lv_aload_n hx hb dX6_next_154 rfl (lv_at hl 1 rfl) ?_
        refine q_ldcS (tx := ";:+-*()[]=<>") G (i := 10) (List.mem_of_getElem? (i := 0) (by decide +kernel)) B hw dX6_next_155 ?_
        refine lv_iload_n hx hb dX6_next_157 rfl (lv_at hl 0 rfl) ?_
        refine lv_i2c (v := ((Int32.toUInt32 x7 % 65536).toInt32)) hx hb dX6_next_158 rfl ?_
        obtain ⟨x12, e, hf⟩ := ob hf
        refine q_callVS (As := [.int ((Int32.toUInt32 x7 % 65536).toInt32)]) (rest := [.ref v0]) (st1 := [.int x12, .ref v0]) (c_J0_indexOf_0f7a4 G e) B hw hz hc0 (k_J0_indexOf_0f7a4 e) rfl my_J0_indexOf_0f7a4 mv_J0_indexOf_0f7a4 tw_2_193 ⟨Nat.le_of_ble_eq_true rfl, Nat.le_of_ble_eq_true rfl⟩ ⟨Nat.zero_le _, Nat.zero_le _⟩ rfl hl.1 rfl rfl (Nat.le_of_ble_eq_true rfl) dX6_next_159 (fun H locs hw => ?_)
        refine lv_if_lt (tgt := 169) hx hb dX6_next_162 (by decide) (fun c13 => ?_) (fun c13 => ?_)
        · have hf := (if_pos c13).symm.trans hf
          refine lv_iconst (v := 4) hx hb dX6_next_169 (by decide) ?_
          obtain ⟨h14, e, hf⟩ := ob hf
          refine q_putI e B hw fd_6_6.1 fd_6_6.2.1 fd_6_6.2.2.1 fd_6_6.2.2.2.1 fd_6_6.2.2.2.2 rfl rfl (tyX6_ok 6 (by decide)) tyX6 tyX6_ok nmX6 tw_1_111 dX6_next_170 (fun H locs hw => ?_)
          obtain rfl := so hf
          exact q_vret B hw hz hc0 hr hlk dX6_next_173
        · have hf := (if_neg c13).symm.trans hf
          refine lv_iconst (v := 2) hx hb dX6_next_165 (by decide) ?_
          refine lv_goto (tgt := 170) hx hb dX6_next_166 (by decide) ?_
          obtain ⟨h15, e, hf⟩ := ob hf
          refine q_putI e B hw fd_6_6.1 fd_6_6.2.1 fd_6_6.2.2.1 fd_6_6.2.2.2.1 fd_6_6.2.2.2.2 rfl rfl (tyX6_ok 6 (by decide)) tyX6 tyX6_ok nmX6 tw_1_111 dX6_next_170 (fun H locs hw => ?_)
          obtain rfl := so hf
          exact q_vret B hw hz hc0 hr hlk dX6_next_173
      · have hf := (if_neg c11).symm.trans hf
        refine lv_aload_n hx hb dX6_next_147 rfl (lv_at hl 1 rfl) ?_
        obtain ⟨h16, e, hf⟩ := ob hf
        refine q_callV (As := []) (rest := []) (st1 := []) (c_X6_readDigits G e) B hw hz hc0 (k_X6_readDigits e) (by decide) (ci := 6) rfl rfl my_X6_readDigits mv_X6_readDigits tw_2_188 ⟨Nat.le_of_ble_eq_true rfl, Nat.le_of_ble_eq_true rfl⟩ ⟨Nat.zero_le _, Nat.zero_le _⟩ rfl hl.1 rfl rfl (Nat.le_of_ble_eq_true rfl) dX6_next_148 (fun H locs hw => ?_)
        refine lv_goto (tgt := 173) hx hb dX6_next_151 (by decide) ?_
        obtain rfl := so hf
        exact q_vret B hw hz hc0 hr hlk dX6_next_173
    · have hf := (if_neg c9).symm.trans hf
      refine lv_aload_n hx hb dX6_next_97 rfl (lv_at hl 1 rfl) ?_
      refine lv_iconst (v := 0) hx hb dX6_next_98 (by decide) ?_
      obtain ⟨h17, e, hf⟩ := ob hf
      refine q_putI e B hw fd_6_6.1 fd_6_6.2.1 fd_6_6.2.2.1 fd_6_6.2.2.2.1 fd_6_6.2.2.2.2 rfl rfl (tyX6_ok 6 (by decide)) tyX6 tyX6_ok nmX6 tw_1_111 dX6_next_99 (fun H locs hw => ?_)
      exact w_X6_next_102 G B hz hc0 hr hlk  n h17 v0 _ _ _ hw (lv_sub hl [1] rfl) hf
  · have hf := (if_neg c3).symm.trans hf
    refine lv_aload_n hx hb dX6_next_57 rfl (lv_at hl 0 rfl) ?_
    refine lv_aload_n hx hb dX6_next_58 rfl (lv_at hl 0 rfl) ?_
    obtain ⟨x18, e, hf⟩ := ob hf
    refine q_getI e B hw fd_6_4.1 fd_6_4.2.1 fd_6_4.2.2.1 fd_6_4.2.2.2.1 fd_6_4.2.2.2.2 rfl tw_1_109 dX6_next_59 ?_
    obtain ⟨h19, e, hf⟩ := ob hf
    refine q_putI e B hw fd_6_5.1 fd_6_5.2.1 fd_6_5.2.2.1 fd_6_5.2.2.2.1 fd_6_5.2.2.2.2 rfl rfl (tyX6_ok 5 (by decide)) tyX6 tyX6_ok nmX6 tw_1_110 dX6_next_62 (fun H locs hw => ?_)
    refine lv_aload_n hx hb dX6_next_65 rfl (lv_at hl 0 rfl) ?_
    refine lv_iconst (v := 3) hx hb dX6_next_66 (by decide) ?_
    obtain ⟨h20, e, hf⟩ := ob hf
    refine q_putI e B hw fd_6_6.1 fd_6_6.2.1 fd_6_6.2.2.1 fd_6_6.2.2.2.1 fd_6_6.2.2.2.2 rfl rfl (tyX6_ok 6 (by decide)) tyX6 tyX6_ok nmX6 tw_1_111 dX6_next_67 (fun H locs hw => ?_)
    obtain rfl := so hf
    exact q_vret B hw hz hc0 hr hlk dX6_next_70
set_option maxHeartbeats 4000000 in
theorem w_X6_next_8 {p : Program} {l : Launch} {e : Env} {s : State} {m : MethodId} {args : Array Value} {below : List Frame} {meth : Method} {c : Code} {s0 : State} {E : Ev} {z : Sh} {n : Nat} {h' : Hp} (G : Gl s0 E) (B : Bd p s0 s E m c cX6_next 2 RX6) (hz : s0.heap.size ≤ z.sz) (hc0 : s.heap.size + 0 = z.sz) (hr : meth.sig.returnType = none) (hlk : meth.locks = false) : ∀ (i : Nat), ∀ (h : Hp) (v0 : Nat) (H : Heap) (locs : List Loc) (ls : Array Slot), Pw s0 s E z h H locs → lv_has ls 2 [(0, .ref v0)] → f_X6_next_8 n z i h v0 = some h' → W p l e (rmO 4 91) s m args below meth c H locs 0 0 (Zt below s0 E z h' (none) args s 0 0) (F0 m 8 ls []) := by
  have hx := B.1
  have hb := B.2.1
  intro i
  induction i with
  | zero =>
    intro h v0 H locs ls hw hl hf
    have hf := (f_X6_next_8.eq_1 ..).symm.trans hf
    cases hf
  | succ i ih =>
    intro h v0 H locs ls hw hl hf
    have hf := (f_X6_next_8.eq_2 ..).symm.trans hf
    refine lv_aload_n hx hb dX6_next_8 rfl (lv_at hl 0 rfl) ?_
    obtain ⟨x1, e, hf⟩ := ob hf
    refine q_getI e B hw fd_6_4.1 fd_6_4.2.1 fd_6_4.2.2.1 fd_6_4.2.2.2.1 fd_6_4.2.2.2.2 rfl tw_1_109 dX6_next_9 ?_
    refine lv_aload_n hx hb dX6_next_12 rfl (lv_at hl 0 rfl) ?_
    obtain ⟨x2, e, hf⟩ := ob hf
    refine q_getI e B hw fd_6_3.1 fd_6_3.2.1 fd_6_3.2.2.1 fd_6_3.2.2.2.1 fd_6_3.2.2.2.2 rfl tw_1_108 dX6_next_13 ?_
    refine lv_icmp_ge (tgt := 46) hx hb dX6_next_16 (by decide) (fun c3 => ?_) (fun c3 => ?_)
    · have hf := (if_pos c3).symm.trans hf
      exact w_X6_next_46 G B hz hc0 hr hlk  h v0 _ _ _ hw (lv_sub hl [0] rfl) hf
    · have hf := (if_neg c3).symm.trans hf
      refine lv_aload_n hx hb dX6_next_19 rfl (lv_at hl 0 rfl) ?_
      refine lv_aload_n hx hb dX6_next_20 rfl (lv_at hl 0 rfl) ?_
      obtain ⟨x4, e, hf⟩ := ob hf
      refine q_getI e B hw fd_6_4.1 fd_6_4.2.1 fd_6_4.2.2.1 fd_6_4.2.2.2.1 fd_6_4.2.2.2.2 rfl tw_1_109 dX6_next_21 ?_
      obtain ⟨x5, e, hf⟩ := ob hf
      refine q_callV (As := [.int x4]) (rest := []) (st1 := [.int x5]) (c_X6_byteAt G e) B hw hz hc0 (k_X6_byteAt e) (by decide) (ci := 6) rfl rfl my_X6_byteAt mv_X6_byteAt tw_2_175 ⟨Nat.le_of_ble_eq_true rfl, Nat.le_of_ble_eq_true rfl⟩ ⟨Nat.zero_le _, Nat.zero_le _⟩ rfl hl.1 rfl rfl (Nat.le_of_ble_eq_true rfl) dX6_next_24 (fun H locs hw => ?_)
      obtain ⟨x6, e, hf⟩ := ob hf
      refine q_callS (As := [.int x5]) (rest := []) (st1 := [.int x6]) (c_X6_isBlank G e) B hw hz hc0 my_X6_isBlank mv_X6_isBlank tw_2_179 ⟨Nat.le_of_ble_eq_true rfl, Nat.le_of_ble_eq_true rfl⟩ ⟨Nat.zero_le _, Nat.zero_le _⟩ rfl hl.1 rfl rfl (Nat.le_of_ble_eq_true rfl) dX6_next_27 (fun H locs hw => ?_)
      refine lv_if_eq (tgt := 46) hx hb dX6_next_30 (by decide) (fun c7 => ?_) (fun c7 => ?_)
      · have hf := (if_pos c7).symm.trans hf
        exact w_X6_next_46 G B hz hc0 hr hlk  h v0 _ _ _ hw (lv_sub hl [0] rfl) hf
      · have hf := (if_neg c7).symm.trans hf
        refine lv_aload_n hx hb dX6_next_33 rfl (lv_at hl 0 rfl) ?_
        refine lv_dup hx hb dX6_next_34 rfl ?_
        obtain ⟨x8, e, hf⟩ := ob hf
        refine q_getI e B hw fd_6_4.1 fd_6_4.2.1 fd_6_4.2.2.1 fd_6_4.2.2.2.1 fd_6_4.2.2.2.2 rfl tw_1_109 dX6_next_35 ?_
        refine lv_iconst (v := 1) hx hb dX6_next_38 (by decide) ?_
        refine lv_iadd hx hb dX6_next_39 ?_
        obtain ⟨h9, e, hf⟩ := ob hf
        refine q_putI e B hw fd_6_4.1 fd_6_4.2.1 fd_6_4.2.2.1 fd_6_4.2.2.2.1 fd_6_4.2.2.2.2 rfl rfl (tyX6_ok 4 (by decide)) tyX6 tyX6_ok nmX6 tw_1_109 dX6_next_40 (fun H locs hw => ?_)
        refine lv_goto (tgt := 8) hx hb dX6_next_43 (by decide) ?_
        exact ih h9 v0 _ _ _ hw (lv_sub hl [0] rfl) hf
set_option maxHeartbeats 4000000 in
theorem c_X6_next {l : Launch} {s0 : State} {E : Ev} (G : Gl s0 E) {n : Nat} {z : Sh} {h : Hp} {v0 : Nat} {h' : Hp} (hf : f_X6_next n z h v0 = some h') : Ct l s0 E yX6_next cX6_next 2 none 4 91 [.ref v0] z h h' (none) := by
  refine Ct.of G (by decide) (Nat.le_of_ble_eq_true rfl) ?_
  intro p e s m below meth c ls B hw hz hc0 hr hlk hl
  have B : Bd p s0 s E m c cX6_next 2 RX6 := B
  have hx := B.1
  have hb := B.2.1
  have hl : lv_has ls 2 [(0, .ref v0)] := hl
  unfold f_X6_next at hf
  obtain ⟨_, hf⟩ := if_some hf
  refine lv_aload_n hx hb dX6_next_0 rfl (lv_at hl 0 rfl) ?_
  refine lv_aload_n hx hb dX6_next_1 rfl (lv_at hl 0 rfl) ?_
  obtain ⟨x1, e, hf⟩ := ob hf
  refine q_getI e B hw fd_6_5.1 fd_6_5.2.1 fd_6_5.2.2.1 fd_6_5.2.2.2.1 fd_6_5.2.2.2.2 rfl tw_1_110 dX6_next_2 ?_
  obtain ⟨h2, e, hf⟩ := ob hf
  refine q_putI e B hw fd_6_4.1 fd_6_4.2.1 fd_6_4.2.2.1 fd_6_4.2.2.2.1 fd_6_4.2.2.2.2 rfl rfl (tyX6_ok 4 (by decide)) tyX6 tyX6_ok nmX6 tw_1_109 dX6_next_5 (fun H locs hw => ?_)
  exact w_X6_next_8 G B hz hc0 hr hlk  n h2 v0 _ _ _ hw (lv_sub hl [0] rfl) hf
/-! SecondLife.season(II)I -/
def f_X11_season_11 (n : Nat) (z : Sh) (h : Hp) : Option (Int32 × Hp) :=
  (f_X11_refused z h 3).bind fun x1 =>
  some (x1, h)
def f_X11_season (n : Nat) (z : Sh) (h : Hp) (v0 : Nat) (v1 : Int32) (v2 : Int32) : Option (Int32 × Hp) :=
  if z.K v0 = 11 then
    if v2 < 1 then
      f_X11_season_11 n z h
    else
      if v2 ≤ 40 then
        (gR z h 11 v0 5).bind fun a3 =>
        (gR z h 11 v0 4).bind fun a4 =>
        (f_X5_copy z h a3 a4).bind fun h5 =>
        (gR z h5 11 v0 11).bind fun a6 =>
        (gR z h5 11 v0 3).bind fun a7 =>
        (gR z h5 11 v0 4).bind fun a8 =>
        (f_X2_doSeason n z h5 a6 a7 a8 v1 v2).bind fun (x9, h10) =>
        if x9 ≤ 0 then
          some (x9, h10)
        else
          (gR z h10 11 v0 6).bind fun a12 =>
          (gR z h10 11 v0 5).bind fun a13 =>
          (f_X4_keep z h10 a12 a13).bind fun h14 =>
          some (x9, h14)
      else
        f_X11_season_11 n z h
  else none
theorem k_X11_season {n : Nat} {z : Sh} {h : Hp} {v0 : Nat} {v1 : Int32} {v2 : Int32} {w : Int32 × Hp} (hf : f_X11_season n z h v0 v1 v2 = some w) : z.K v0 = 11 := by
  unfold f_X11_season at hf
  exact (if_some hf).1
set_option maxHeartbeats 4000000 in
theorem w_X11_season_11 {p : Program} {l : Launch} {e : Env} {s : State} {m : MethodId} {args : Array Value} {below : List Frame} {meth : Method} {c : Code} {s0 : State} {E : Ev} {z : Sh} {n : Nat} {r : Int32} {h' : Hp} (G : Gl s0 E) (B : Bd p s0 s E m c cX11_season 4 RX11) (hz : s0.heap.size ≤ z.sz) (hc0 : s.heap.size + 0 = z.sz) (hr : meth.sig.returnType = (some .int)) (hlk : meth.locks = false) : ∀ (h : Hp) (H : Heap) (locs : List Loc) (ls : Array Slot), Pw s0 s E z h H locs → lv_has ls 4 [] → f_X11_season_11 n z h = some (r, h') → W p l e (rmO 7 171) s m args below meth c H locs 0 0 (Zt below s0 E z h' (some (.int r)) args s 0 0) (F0 m 11 ls []) := by
  have hx := B.1
  have hb := B.2.1
  intro h H locs ls hw hl hf
  unfold f_X11_season_11 at hf
  refine lv_iconst (v := 3) hx hb dX11_season_11 (by decide) ?_
  obtain ⟨x1, e, hf⟩ := ob hf
  refine q_callS (As := [.int 3]) (rest := []) (st1 := [.int x1]) (c_X11_refused G e) B hw hz hc0 my_X11_refused mv_X11_refused tw_2_155 ⟨Nat.le_of_ble_eq_true rfl, Nat.le_of_ble_eq_true rfl⟩ ⟨Nat.zero_le _, Nat.zero_le _⟩ rfl hl.1 rfl rfl (Nat.le_of_ble_eq_true rfl) dX11_season_12 (fun H locs hw => ?_)
  obtain ⟨rfl, rfl⟩ := so2 hf
  exact q_iret B hw hz hc0 hr hlk dX11_season_15
set_option maxHeartbeats 4000000 in
theorem c_X11_season {l : Launch} {s0 : State} {E : Ev} (G : Gl s0 E) {n : Nat} {z : Sh} {h : Hp} {v0 : Nat} {v1 : Int32} {v2 : Int32} {r : Int32} {h' : Hp} (hf : f_X11_season n z h v0 v1 v2 = some (r, h')) : Ct l s0 E yX11_season cX11_season 4 (some .int) 7 171 [.ref v0, .int v1, .int v2] z h h' (some (.int r)) := by
  refine Ct.of G (by decide) (Nat.le_of_ble_eq_true rfl) ?_
  intro p e s m below meth c ls B hw hz hc0 hr hlk hl
  have B : Bd p s0 s E m c cX11_season 4 RX11 := B
  have hx := B.1
  have hb := B.2.1
  have hl : lv_has ls 4 [(0, .ref v0), (1, .int v1), (2, .int v2)] := hl
  unfold f_X11_season at hf
  obtain ⟨_, hf⟩ := if_some hf
  refine lv_iload_n hx hb dX11_season_0 rfl (lv_at hl 2 rfl) ?_
  refine lv_iconst (v := 1) hx hb dX11_season_1 (by decide) ?_
  refine lv_icmp_lt (tgt := 11) hx hb dX11_season_2 (by decide) (fun c1 => ?_) (fun c1 => ?_)
  · have hf := (if_pos c1).symm.trans hf
    exact w_X11_season_11 G B hz hc0 hr hlk  h _ _ _ hw (lv_sub hl [] rfl) hf
  · have hf := (if_neg c1).symm.trans hf
    refine lv_iload_n hx hb dX11_season_5 rfl (lv_at hl 2 rfl) ?_
    refine lv_bipush (v := 40) hx hb dX11_season_6 (by decide) ?_
    refine lv_icmp_le (tgt := 16) hx hb dX11_season_8 (by decide) (fun c2 => ?_) (fun c2 => ?_)
    · have hf := (if_pos c2).symm.trans hf
      refine lv_aload_n hx hb dX11_season_16 rfl (lv_at hl 0 rfl) ?_
      obtain ⟨a3, e, hf⟩ := ob hf
      refine q_getR e B hw fd_11_5.1 fd_11_5.2.1 fd_11_5.2.2.1 fd_11_5.2.2.2.1 fd_11_5.2.2.2.2 rfl tw_2_107 dX11_season_17 ?_
      refine lv_aload_n hx hb dX11_season_20 rfl (lv_at hl 0 rfl) ?_
      obtain ⟨a4, e, hf⟩ := ob hf
      refine q_getR e B hw fd_11_4.1 fd_11_4.2.1 fd_11_4.2.2.1 fd_11_4.2.2.2.1 fd_11_4.2.2.2.2 rfl tw_2_106 dX11_season_21 ?_
      obtain ⟨h5, e, hf⟩ := ob hf
      refine q_callVN (As := [.ref a4]) (rest := []) (st1 := []) (c_X5_copy G e) B hw hz hc0 (k_X5_copy e) (by decide) (ci := 5) rfl rfl my_X5_copy mv_X5_copy tw_4_29 ⟨Nat.le_of_ble_eq_true rfl, Nat.le_of_ble_eq_true rfl⟩ ⟨Nat.zero_le _, Nat.zero_le _⟩ rfl hl.1 rfl rfl (Nat.le_of_ble_eq_true rfl) dX11_season_24 (fun H locs hw => ?_)
      refine lv_aload_n hx hb dX11_season_27 rfl (lv_at hl 0 rfl) ?_
      obtain ⟨a6, e, hf⟩ := ob hf
      refine q_getR e B hw fd_11_11.1 fd_11_11.2.1 fd_11_11.2.2.1 fd_11_11.2.2.2.1 fd_11_11.2.2.2.2 rfl tw_2_113 dX11_season_28 ?_
      refine lv_aload_n hx hb dX11_season_31 rfl (lv_at hl 0 rfl) ?_
      obtain ⟨a7, e, hf⟩ := ob hf
      refine q_getR e B hw fd_11_3.1 fd_11_3.2.1 fd_11_3.2.2.1 fd_11_3.2.2.2.1 fd_11_3.2.2.2.2 rfl tw_2_105 dX11_season_32 ?_
      refine lv_aload_n hx hb dX11_season_35 rfl (lv_at hl 0 rfl) ?_
      obtain ⟨a8, e, hf⟩ := ob hf
      refine q_getR e B hw fd_11_4.1 fd_11_4.2.1 fd_11_4.2.2.1 fd_11_4.2.2.2.1 fd_11_4.2.2.2.2 rfl tw_2_106 dX11_season_36 ?_
      refine lv_iload_n hx hb dX11_season_39 rfl (lv_at hl 1 rfl) ?_
      refine lv_iload_n hx hb dX11_season_40 rfl (lv_at hl 2 rfl) ?_
      obtain ⟨⟨x9, h10⟩, e, hf⟩ := ob hf
      refine q_callVN (As := [.ref a7, .ref a8, .int v1, .int v2]) (rest := []) (st1 := [.int x9]) (c_X2_doSeason G e) B hw hz hc0 (k_X2_doSeason e) (by decide) (ci := 2) rfl rfl my_X2_doSeason mv_X2_doSeason tw_4_140 ⟨Nat.le_of_ble_eq_true rfl, Nat.le_of_ble_eq_true rfl⟩ ⟨Nat.zero_le _, Nat.zero_le _⟩ rfl hl.1 rfl rfl (Nat.le_of_ble_eq_true rfl) dX11_season_41 (fun H locs hw => ?_)
      refine lv_istore_n (lv' := [(3, .int x9), (0, .ref v0), (1, .int v1), (2, .int v2)]) hx hb dX11_season_44 rfl hl (by decide) rfl (fun ls hl => ?_)
      refine lv_iload_n hx hb dX11_season_45 rfl (lv_at hl 0 rfl) ?_
      refine lv_if_le (tgt := 60) hx hb dX11_season_46 (by decide) (fun c11 => ?_) (fun c11 => ?_)
      · have hf := (if_pos c11).symm.trans hf
        refine lv_iload_n hx hb dX11_season_60 rfl (lv_at hl 0 rfl) ?_
        obtain ⟨rfl, rfl⟩ := so2 hf
        exact q_iret B hw hz hc0 hr hlk dX11_season_61
      · have hf := (if_neg c11).symm.trans hf
        refine lv_aload_n hx hb dX11_season_49 rfl (lv_at hl 1 rfl) ?_
        obtain ⟨a12, e, hf⟩ := ob hf
        refine q_getR e B hw fd_11_6.1 fd_11_6.2.1 fd_11_6.2.2.1 fd_11_6.2.2.2.1 fd_11_6.2.2.2.2 rfl tw_2_108 dX11_season_50 ?_
        refine lv_aload_n hx hb dX11_season_53 rfl (lv_at hl 1 rfl) ?_
        obtain ⟨a13, e, hf⟩ := ob hf
        refine q_getR e B hw fd_11_5.1 fd_11_5.2.1 fd_11_5.2.2.1 fd_11_5.2.2.2.1 fd_11_5.2.2.2.2 rfl tw_2_107 dX11_season_54 ?_
        obtain ⟨h14, e, hf⟩ := ob hf
        refine q_callVN (As := [.ref a13]) (rest := []) (st1 := []) (c_X4_keep G e) B hw hz hc0 (k_X4_keep e) (by decide) (ci := 4) rfl rfl my_X4_keep mv_X4_keep tw_4_44 ⟨Nat.le_of_ble_eq_true rfl, Nat.le_of_ble_eq_true rfl⟩ ⟨Nat.zero_le _, Nat.zero_le _⟩ rfl hl.1 rfl rfl (Nat.le_of_ble_eq_true rfl) dX11_season_57 (fun H locs hw => ?_)
        refine lv_iload_n hx hb dX11_season_60 rfl (lv_at hl 0 rfl) ?_
        obtain ⟨rfl, rfl⟩ := so2 hf
        exact q_iret B hw hz hc0 hr hlk dX11_season_61
    · have hf := (if_neg c2).symm.trans hf
      exact w_X11_season_11 G B hz hc0 hr hlk  h _ _ _ hw (lv_sub hl [] rfl) hf
/-! SecondLife.best(I)I -/
def f_X11_best (n : Nat) (z : Sh) (h : Hp) (v0 : Nat) (v1 : Int32) : Option (Int32 × Hp × Sh) :=
  if z.K v0 = 11 then
    gd3 z <|
    (gR z h 11 v0 4).bind fun a1 =>
    (f_X5_has z h a1 v1).bind fun x2 =>
    if x2 = 0 then
      (f_X11_refused z h 2).bind fun x14 =>
      some (x14, h, z)
    else
      (gR z h 11 v0 12).bind fun a4 =>
      (gR z h 11 v0 3).bind fun a5 =>
      (gR z h 11 v0 4).bind fun a6 =>
      (f_X10_about n z h a4 a5 a6 v1).bind fun h7 =>
      (gR z h7 11 v0 13).bind fun a8 =>
      (gR z h7 11 v0 12).bind fun a9 =>
      (gI z h7 10 a9 8).bind fun x10 =>
      (f_X1_mostFrom n z h7 a8 x10).bind fun (x11, h12, z13) =>
      gd3 z13 <|
      some (x11, h12, z13)
  else none
theorem k_X11_best {n : Nat} {z : Sh} {h : Hp} {v0 : Nat} {v1 : Int32} {w : Int32 × Hp × Sh} (hf : f_X11_best n z h v0 v1 = some w) : z.K v0 = 11 := by
  unfold f_X11_best at hf
  exact (if_some hf).1
theorem mo_X11_best {n : Nat} {z : Sh} {h : Hp} {v0 : Nat} {v1 : Int32} {r : Int32} {h' : Hp} {zE : Sh} (hf : f_X11_best n z h v0 v1 = some (r, h', zE)) : z.sz ≤ zE.sz ∧ z.sl ≤ zE.sl := by
  unfold f_X11_best at hf
  exact (gd3_some (if_some hf).2).1
set_option maxHeartbeats 4000000 in
theorem c_X11_best {l : Launch} {s0 : State} {E : Ev} (G : Gl s0 E) {n : Nat} {z : Sh} {h : Hp} {v0 : Nat} {v1 : Int32} {r : Int32} {h' : Hp} {zE : Sh} (hf : f_X11_best n z h v0 v1 = some (r, h', zE)) : Ca l s0 E yX11_best cX11_best 2 (some .int) 28 1370 [.ref v0, .int v1] z zE h h' (some (.int r)) := by
  refine Ca.of G (by decide +kernel) (Nat.le_of_ble_eq_true rfl) (mo_X11_best hf) ?_
  intro p e s m below meth c ls B hw hM hr hlk hnm0 hl
  have B : Bd p s0 s E m c cX11_best 2 RX11 := B
  have hx := B.1
  have hb := B.2.1
  have hl : lv_has ls 2 [(0, .ref v0), (1, .int v1)] := hl
  unfold f_X11_best at hf
  obtain ⟨_, hf⟩ := if_some hf
  obtain ⟨_, hf⟩ := gd3_some hf
  refine lv_aload_n hx hb dX11_best_0 rfl (lv_at hl 0 rfl) ?_
  obtain ⟨a1, e, hf⟩ := ob hf
  refine q_getR e B hw fd_11_4.1 fd_11_4.2.1 fd_11_4.2.2.1 fd_11_4.2.2.2.1 fd_11_4.2.2.2.2 rfl tw_2_106 dX11_best_1 ?_
  refine lv_iload_n hx hb dX11_best_4 rfl (lv_at hl 1 rfl) ?_
  obtain ⟨x2, e, hf⟩ := ob hf
  refine q_callVN (As := [.int v1]) (rest := []) (st1 := [.int x2]) (c_X5_has G e) B hw hM.hz hM.hc0 (k_X5_has e) (by decide) (ci := 5) rfl rfl my_X5_has mv_X5_has tw_3_214 ⟨Nat.le_of_ble_eq_true rfl, Nat.le_of_ble_eq_true rfl⟩ hM.hcs rfl hl.1 rfl rfl (Nat.le_of_ble_eq_true rfl) dX11_best_5 (fun H locs hw => ?_)
  refine lv_if_ne (tgt := 16) hx hb dX11_best_8 (by decide) (fun c3 => ?_) (fun c3 => ?_)
  · have hf := (if_neg c3).symm.trans hf
    refine lv_aload_n hx hb dX11_best_16 rfl (lv_at hl 0 rfl) ?_
    obtain ⟨a4, e, hf⟩ := ob hf
    refine q_getR e B hw fd_11_12.1 fd_11_12.2.1 fd_11_12.2.2.1 fd_11_12.2.2.2.1 fd_11_12.2.2.2.2 rfl tw_2_114 dX11_best_17 ?_
    refine lv_aload_n hx hb dX11_best_20 rfl (lv_at hl 0 rfl) ?_
    obtain ⟨a5, e, hf⟩ := ob hf
    refine q_getR e B hw fd_11_3.1 fd_11_3.2.1 fd_11_3.2.2.1 fd_11_3.2.2.2.1 fd_11_3.2.2.2.2 rfl tw_2_105 dX11_best_21 ?_
    refine lv_aload_n hx hb dX11_best_24 rfl (lv_at hl 0 rfl) ?_
    obtain ⟨a6, e, hf⟩ := ob hf
    refine q_getR e B hw fd_11_4.1 fd_11_4.2.1 fd_11_4.2.2.1 fd_11_4.2.2.2.1 fd_11_4.2.2.2.2 rfl tw_2_106 dX11_best_25 ?_
    refine lv_iload_n hx hb dX11_best_28 rfl (lv_at hl 1 rfl) ?_
    obtain ⟨h7, e, hf⟩ := ob hf
    refine q_callVN (As := [.ref a5, .ref a6, .int v1]) (rest := []) (st1 := []) (c_X10_about G e) B hw hM.hz hM.hc0 (k_X10_about e) (by decide) (ci := 10) rfl rfl my_X10_about mv_X10_about tw_4_157 ⟨Nat.le_of_ble_eq_true rfl, Nat.le_of_ble_eq_true rfl⟩ hM.hcs rfl hl.1 rfl rfl (Nat.le_of_ble_eq_true rfl) dX11_best_29 (fun H locs hw => ?_)
    refine lv_aload_n hx hb dX11_best_32 rfl (lv_at hl 0 rfl) ?_
    obtain ⟨a8, e, hf⟩ := ob hf
    refine q_getR e B hw fd_11_13.1 fd_11_13.2.1 fd_11_13.2.2.1 fd_11_13.2.2.2.1 fd_11_13.2.2.2.2 rfl tw_2_115 dX11_best_33 ?_
    refine lv_aload_n hx hb dX11_best_36 rfl (lv_at hl 0 rfl) ?_
    obtain ⟨a9, e, hf⟩ := ob hf
    refine q_getR e B hw fd_11_12.1 fd_11_12.2.1 fd_11_12.2.2.1 fd_11_12.2.2.2.1 fd_11_12.2.2.2.2 rfl tw_2_114 dX11_best_37 ?_
    obtain ⟨x10, e, hf⟩ := ob hf
    refine q_getIN e B hw fd_10_8.1 fd_10_8.2.1 fd_10_8.2.2.1 fd_10_8.2.2.2.1 fd_10_8.2.2.2.2 rfl tw_2_3 dX11_best_40 ?_
    obtain ⟨⟨x11, h12, z13⟩, e, hf⟩ := ob hf
    obtain ⟨hg, hf⟩ := gd3_some hf
    refine q_callVNA (As := [.int x10]) (rest := []) (st1 := [.int x11]) (c_X1_mostFrom G e) (mo_X1_mostFrom e) hg B hw hM (k_X1_mostFrom e) (by decide) (ci := 1) rfl rfl my_X1_mostFrom mv_X1_mostFrom tw_4_166 ⟨Nat.le_of_ble_eq_true rfl, Nat.le_of_ble_eq_true rfl⟩ rfl hl.1 rfl rfl (Nat.le_of_ble_eq_true rfl) dX11_best_43 (fun H locs hw hM => ?_)
    obtain ⟨rfl, rfl, rfl⟩ := so3 hf
    exact q_iret B hw hM.hz hM.hc0 hr hlk dX11_best_46
  · have hf := (if_pos c3).symm.trans hf
    refine lv_iconst (v := 2) hx hb dX11_best_11 (by decide) ?_
    obtain ⟨x14, e, hf⟩ := ob hf
    refine q_callS (As := [.int 2]) (rest := []) (st1 := [.int x14]) (c_X11_refused G e) B hw hM.hz hM.hc0 my_X11_refused mv_X11_refused tw_2_155 ⟨Nat.le_of_ble_eq_true rfl, Nat.le_of_ble_eq_true rfl⟩ hM.hcs rfl hl.1 rfl rfl (Nat.le_of_ble_eq_true rfl) dX11_best_12 (fun H locs hw => ?_)
    obtain ⟨rfl, rfl, rfl⟩ := so3 hf
    exact q_iret B hw hM.hz hM.hc0 hr hlk dX11_best_15
/-! SecondLife.talents(III)I -/
def f_X11_talents (n : Nat) (z : Sh) (h : Hp) (v0 : Nat) (v1 : Int32) (v2 : Int32) (v3 : Int32) : Option (Int32 × Hp) :=
  if z.K v0 = 11 then
    (f_X11_livedFault n z h v0 v1 v2).bind fun x1 =>
    if x1 = 0 then
      (f_X11_trayAt z h v0 v1).bind fun o3 =>
      (match o3 with
      | none =>
        none
      | some a4 =>
        (f_X11_fittingTalents n z h v0 a4 v2 v3).bind fun (x5, h6) =>
        some (x5, h6))
    else
      (f_X11_refused z h x1).bind fun x7 =>
      some (x7, h)
  else none
theorem k_X11_talents {n : Nat} {z : Sh} {h : Hp} {v0 : Nat} {v1 : Int32} {v2 : Int32} {v3 : Int32} {w : Int32 × Hp} (hf : f_X11_talents n z h v0 v1 v2 v3 = some w) : z.K v0 = 11 := by
  unfold f_X11_talents at hf
  exact (if_some hf).1
set_option maxHeartbeats 4000000 in
theorem c_X11_talents {l : Launch} {s0 : State} {E : Ev} (G : Gl s0 E) {n : Nat} {z : Sh} {h : Hp} {v0 : Nat} {v1 : Int32} {v2 : Int32} {v3 : Int32} {r : Int32} {h' : Hp} (hf : f_X11_talents n z h v0 v1 v2 v3 = some (r, h')) : Ct l s0 E yX11_talents cX11_talents 5 (some .int) 6 147 [.ref v0, .int v1, .int v2, .int v3] z h h' (some (.int r)) := by
  refine Ct.of G (by decide) (Nat.le_of_ble_eq_true rfl) ?_
  intro p e s m below meth c ls B hw hz hc0 hr hlk hl
  have B : Bd p s0 s E m c cX11_talents 5 RX11 := B
  have hx := B.1
  have hb := B.2.1
  have hl : lv_has ls 5 [(0, .ref v0), (1, .int v1), (2, .int v2), (3, .int v3)] := hl
  unfold f_X11_talents at hf
  obtain ⟨_, hf⟩ := if_some hf
  refine lv_aload_n hx hb dX11_talents_0 rfl (lv_at hl 0 rfl) ?_
  refine lv_iload_n hx hb dX11_talents_1 rfl (lv_at hl 1 rfl) ?_
  refine lv_iload_n hx hb dX11_talents_2 rfl (lv_at hl 2 rfl) ?_
  obtain ⟨x1, e, hf⟩ := ob hf
  refine q_callV (As := [.int v1, .int v2]) (rest := []) (st1 := [.int x1]) (c_X11_livedFault G e) B hw hz hc0 (k_X11_livedFault e) (by decide) (ci := 11) rfl rfl my_X11_livedFault mv_X11_livedFault tw_5_154 ⟨Nat.le_of_ble_eq_true rfl, Nat.le_of_ble_eq_true rfl⟩ ⟨Nat.zero_le _, Nat.zero_le _⟩ rfl hl.1 rfl rfl (Nat.le_of_ble_eq_true rfl) dX11_talents_3 (fun H locs hw => ?_)
  refine lv_istore (lv' := [(4, .int x1), (0, .ref v0), (1, .int v1), (2, .int v2), (3, .int v3)]) hx hb dX11_talents_6 hl (by decide) rfl (fun ls hl => ?_)
  refine lv_iload hx hb dX11_talents_8 (lv_at hl 0 rfl) ?_
  refine lv_if_eq (tgt := 21) hx hb dX11_talents_10 (by decide) (fun c2 => ?_) (fun c2 => ?_)
  · have hf := (if_pos c2).symm.trans hf
    refine lv_aload_n hx hb dX11_talents_21 rfl (lv_at hl 1 rfl) ?_
    refine lv_aload_n hx hb dX11_talents_22 rfl (lv_at hl 1 rfl) ?_
    refine lv_iload_n hx hb dX11_talents_23 rfl (lv_at hl 2 rfl) ?_
    obtain ⟨o3, e, hf⟩ := ob hf
    refine q_callV (As := [.int v1]) (rest := [.ref v0]) (st1 := [va_rf o3, .ref v0]) (c_X11_trayAt G e) B hw hz hc0 (k_X11_trayAt e) (by decide) (ci := 11) rfl rfl my_X11_trayAt mv_X11_trayAt tw_4_95 ⟨Nat.le_of_ble_eq_true rfl, Nat.le_of_ble_eq_true rfl⟩ ⟨Nat.zero_le _, Nat.zero_le _⟩ rfl hl.1 rfl rfl (Nat.le_of_ble_eq_true rfl) dX11_talents_24 (fun H locs hw => ?_)
    rcases o3 with _ | a4
    · cases hf
    · refine lv_iload_n hx hb dX11_talents_27 rfl (lv_at hl 3 rfl) ?_
      refine lv_iload_n hx hb dX11_talents_28 rfl (lv_at hl 4 rfl) ?_
      obtain ⟨⟨x5, h6⟩, e, hf⟩ := ob hf
      refine q_callV (As := [.ref a4, .int v2, .int v3]) (rest := []) (st1 := [.int x5]) (c_X11_fittingTalents G e) B hw hz hc0 (k_X11_fittingTalents e) (by decide) (ci := 11) rfl rfl my_X11_fittingTalents mv_X11_fittingTalents tw_5_159 ⟨Nat.le_of_ble_eq_true rfl, Nat.le_of_ble_eq_true rfl⟩ ⟨Nat.zero_le _, Nat.zero_le _⟩ rfl hl.1 rfl rfl (Nat.le_of_ble_eq_true rfl) dX11_talents_29 (fun H locs hw => ?_)
      obtain ⟨rfl, rfl⟩ := so2 hf
      exact q_iret B hw hz hc0 hr hlk dX11_talents_32
  · have hf := (if_neg c2).symm.trans hf
    refine lv_iload hx hb dX11_talents_13 (lv_at hl 0 rfl) ?_
    obtain ⟨x7, e, hf⟩ := ob hf
    refine q_callS (As := [.int x1]) (rest := []) (st1 := [.int x7]) (c_X11_refused G e) B hw hz hc0 my_X11_refused mv_X11_refused tw_2_155 ⟨Nat.le_of_ble_eq_true rfl, Nat.le_of_ble_eq_true rfl⟩ ⟨Nat.zero_le _, Nat.zero_le _⟩ rfl hl.1 rfl rfl (Nat.le_of_ble_eq_true rfl) dX11_talents_15 (fun H locs hw => ?_)
    refine lv_goto (tgt := 32) hx hb dX11_talents_18 (by decide) ?_
    obtain ⟨rfl, rfl⟩ := so2 hf
    exact q_iret B hw hz hc0 hr hlk dX11_talents_32
/-! SecondLife.attempt(III)I -/
def f_X11_attempt_85 (n : Nat) (z : Sh) (k42 : Hp → Nat → Int32 → Int32 → Int32 → Int32 → Int32 → Option (Int32 × Hp)) (h : Hp) (v0 : Nat) (v2 : Int32) (v5 : Int32) (v6 : Int32) (v7 : Int32) (v8 : Int32) : Option (Int32 × Hp) :=
  (some (v8 + 1)).bind fun x1 =>
  k42 h v0 v2 v5 v6 v7 x1
def f_X11_attempt_42 (n : Nat) (z : Sh) : Nat → Hp → Nat → Int32 → Int32 → Int32 → Int32 → Int32 → Option (Int32 × Hp)
  | 0, _, _, _, _, _, _, _ => none
  | i + 1, h, v0, v2, v5, v6, v7, v8 =>
    if v5 = 0 then
      some (v6, h)
    else
      (gR z h 11 v0 3).bind fun a2 =>
      (gI z h 8 a2 1).bind fun x3 =>
      if x3 ≤ v8 then
        some (v6, h)
      else
        (f_X11_mostAlike n z h v0 v2 v8 v5).bind fun (x5, h6) =>
        if v7 ≤ x5 then
          f_X11_attempt_85 n z (f_X11_attempt_42 n z i) h6 v0 v2 v5 v6 v7 v8
        else
          f_X11_attempt_85 n z (f_X11_attempt_42 n z i) h6 v0 v2 v5 v8 x5 v8
def f_X11_attempt (n : Nat) (z : Sh) (h : Hp) (v0 : Nat) (v1 : Int32) (v2 : Int32) (v3 : Int32) : Option (Int32 × Hp) :=
  if z.K v0 = 11 then
    (f_X11_livedFault n z h v0 v1 v2).bind fun x1 =>
    if x1 = 0 then
      (f_X11_trayAt z h v0 v1).bind fun o3 =>
      (match o3 with
      | none =>
        none
      | some a4 =>
        (f_X11_fittingTalents n z h v0 a4 v2 v3).bind fun (x5, h6) =>
        f_X11_attempt_42 n z n h6 v0 v2 x5 (-1) 11 0)
    else
      (f_X11_refused z h x1).bind fun x7 =>
      some (x7, h)
  else none
theorem k_X11_attempt {n : Nat} {z : Sh} {h : Hp} {v0 : Nat} {v1 : Int32} {v2 : Int32} {v3 : Int32} {w : Int32 × Hp} (hf : f_X11_attempt n z h v0 v1 v2 v3 = some w) : z.K v0 = 11 := by
  unfold f_X11_attempt at hf
  exact (if_some hf).1
set_option maxHeartbeats 4000000 in
theorem w_X11_attempt_85 {p : Program} {l : Launch} {e : Env} {s : State} {m : MethodId} {args : Array Value} {below : List Frame} {meth : Method} {c : Code} {s0 : State} {E : Ev} {z : Sh} {n : Nat} {k42 : Hp → Nat → Int32 → Int32 → Int32 → Int32 → Int32 → Option (Int32 × Hp)} {r : Int32} {h' : Hp} (G : Gl s0 E) (B : Bd p s0 s E m c cX11_attempt 10 RX11) (hz : s0.heap.size ≤ z.sz) (hc0 : s.heap.size + 0 = z.sz) (hr : meth.sig.returnType = (some .int)) (hlk : meth.locks = false) (hk42 : ∀ (h : Hp) (v0 : Nat) (v2 : Int32) (v5 : Int32) (v6 : Int32) (v7 : Int32) (v8 : Int32) (H : Heap) (locs : List Loc) (ls : Array Slot), Pw s0 s E z h H locs → lv_has ls 10 [(0, .ref v0), (2, .int v2), (5, .int v5), (6, .int v6), (7, .int v7), (8, .int v8)] → k42 h v0 v2 v5 v6 v7 v8 = some (r, h') → W p l e (rmO 6 147) s m args below meth c H locs 0 0 (Zt below s0 E z h' (some (.int r)) args s 0 0) (F0 m 42 ls [])) : ∀ (h : Hp) (v0 : Nat) (v2 : Int32) (v5 : Int32) (v6 : Int32) (v7 : Int32) (v8 : Int32) (H : Heap) (locs : List Loc) (ls : Array Slot), Pw s0 s E z h H locs → lv_has ls 10 [(0, .ref v0), (2, .int v2), (5, .int v5), (6, .int v6), (7, .int v7), (8, .int v8)] → f_X11_attempt_85 n z k42 h v0 v2 v5 v6 v7 v8 = some (r, h') → W p l e (rmO 6 147) s m args below meth c H locs 0 0 (Zt below s0 E z h' (some (.int r)) args s 0 0) (F0 m 85 ls []) := by
  have hx := B.1
  have hb := B.2.1
  intro h v0 v2 v5 v6 v7 v8 H locs ls hw hl hf
  unfold f_X11_attempt_85 at hf
  obtain ⟨x1, e, hf⟩ := ob hf
  refine lv_iinc (v := x1) (lv' := [(8, .int x1), (0, .ref v0), (2, .int v2), (5, .int v5), (6, .int v6), (7, .int v7)]) hx hb dX11_attempt_85 hl (k := 5) rfl (Option.some.inj e) (by decide) rfl (fun ls hl => ?_)
  refine lv_goto (tgt := 42) hx hb dX11_attempt_88 (by decide) ?_
  exact hk42 h v0 v2 v5 v6 v7 x1 _ _ _ hw (lv_sub hl [1, 2, 3, 4, 5, 0] rfl) hf
set_option maxHeartbeats 4000000 in
theorem w_X11_attempt_42 {p : Program} {l : Launch} {e : Env} {s : State} {m : MethodId} {args : Array Value} {below : List Frame} {meth : Method} {c : Code} {s0 : State} {E : Ev} {z : Sh} {n : Nat} {r : Int32} {h' : Hp} (G : Gl s0 E) (B : Bd p s0 s E m c cX11_attempt 10 RX11) (hz : s0.heap.size ≤ z.sz) (hc0 : s.heap.size + 0 = z.sz) (hr : meth.sig.returnType = (some .int)) (hlk : meth.locks = false) : ∀ (i : Nat), ∀ (h : Hp) (v0 : Nat) (v2 : Int32) (v5 : Int32) (v6 : Int32) (v7 : Int32) (v8 : Int32) (H : Heap) (locs : List Loc) (ls : Array Slot), Pw s0 s E z h H locs → lv_has ls 10 [(0, .ref v0), (2, .int v2), (5, .int v5), (6, .int v6), (7, .int v7), (8, .int v8)] → f_X11_attempt_42 n z i h v0 v2 v5 v6 v7 v8 = some (r, h') → W p l e (rmO 6 147) s m args below meth c H locs 0 0 (Zt below s0 E z h' (some (.int r)) args s 0 0) (F0 m 42 ls []) := by
  have hx := B.1
  have hb := B.2.1
  intro i
  induction i with
  | zero =>
    intro h v0 v2 v5 v6 v7 v8 H locs ls hw hl hf
    have hf := (f_X11_attempt_42.eq_1 ..).symm.trans hf
    cases hf
  | succ i ih =>
    intro h v0 v2 v5 v6 v7 v8 H locs ls hw hl hf
    have hf := (f_X11_attempt_42.eq_2 ..).symm.trans hf
    refine lv_iload hx hb dX11_attempt_42 (lv_at hl 2 rfl) ?_
    refine lv_if_eq (tgt := 91) hx hb dX11_attempt_44 (by decide) (fun c1 => ?_) (fun c1 => ?_)
    · have hf := (if_pos c1).symm.trans hf
      refine lv_iload hx hb dX11_attempt_91 (lv_at hl 3 rfl) ?_
      obtain ⟨rfl, rfl⟩ := so2 hf
      exact q_iret B hw hz hc0 hr hlk dX11_attempt_93
    · have hf := (if_neg c1).symm.trans hf
      refine lv_iload hx hb dX11_attempt_47 (lv_at hl 5 rfl) ?_
      refine lv_aload_n hx hb dX11_attempt_49 rfl (lv_at hl 0 rfl) ?_
      obtain ⟨a2, e, hf⟩ := ob hf
      refine q_getR e B hw fd_11_3.1 fd_11_3.2.1 fd_11_3.2.2.1 fd_11_3.2.2.2.1 fd_11_3.2.2.2.2 rfl tw_2_105 dX11_attempt_50 ?_
      obtain ⟨x3, e, hf⟩ := ob hf
      refine q_getIN e B hw fd_8_1.1 fd_8_1.2.1 fd_8_1.2.2.1 fd_8_1.2.2.2.1 fd_8_1.2.2.2.2 rfl tw_1_59 dX11_attempt_53 ?_
      refine lv_icmp_ge (tgt := 91) hx hb dX11_attempt_56 (by decide) (fun c4 => ?_) (fun c4 => ?_)
      · have hf := (if_pos c4).symm.trans hf
        refine lv_iload hx hb dX11_attempt_91 (lv_at hl 3 rfl) ?_
        obtain ⟨rfl, rfl⟩ := so2 hf
        exact q_iret B hw hz hc0 hr hlk dX11_attempt_93
      · have hf := (if_neg c4).symm.trans hf
        refine lv_aload_n hx hb dX11_attempt_59 rfl (lv_at hl 0 rfl) ?_
        refine lv_iload_n hx hb dX11_attempt_60 rfl (lv_at hl 1 rfl) ?_
        refine lv_iload hx hb dX11_attempt_61 (lv_at hl 5 rfl) ?_
        refine lv_iload hx hb dX11_attempt_63 (lv_at hl 2 rfl) ?_
        obtain ⟨⟨x5, h6⟩, e, hf⟩ := ob hf
        refine q_callV (As := [.int v2, .int v8, .int v5]) (rest := []) (st1 := [.int x5]) (c_X11_mostAlike G e) B hw hz hc0 (k_X11_mostAlike e) (by decide) (ci := 11) rfl rfl my_X11_mostAlike mv_X11_mostAlike tw_5_167 ⟨Nat.le_of_ble_eq_true rfl, Nat.le_of_ble_eq_true rfl⟩ ⟨Nat.zero_le _, Nat.zero_le _⟩ rfl hl.1 rfl rfl (Nat.le_of_ble_eq_true rfl) dX11_attempt_65 (fun H locs hw => ?_)
        refine lv_istore (lv' := [(9, .int x5), (0, .ref v0), (2, .int v2), (5, .int v5), (6, .int v6), (7, .int v7), (8, .int v8)]) hx hb dX11_attempt_68 hl (by decide) rfl (fun ls hl => ?_)
        refine lv_iload hx hb dX11_attempt_70 (lv_at hl 0 rfl) ?_
        refine lv_iload hx hb dX11_attempt_72 (lv_at hl 5 rfl) ?_
        refine lv_icmp_ge (tgt := 85) hx hb dX11_attempt_74 (by decide) (fun c7 => ?_) (fun c7 => ?_)
        · have hf := (if_pos c7).symm.trans hf
          exact w_X11_attempt_85 G B hz hc0 hr hlk ih h6 v0 v2 v5 v6 v7 v8 _ _ _ hw (lv_sub hl [1, 2, 3, 4, 5, 6] rfl) hf
        · have hf := (if_neg c7).symm.trans hf
          refine lv_iload hx hb dX11_attempt_77 (lv_at hl 0 rfl) ?_
          refine lv_istore (lv' := [(7, .int x5), (9, .int x5), (0, .ref v0), (2, .int v2), (5, .int v5), (6, .int v6), (8, .int v8)]) hx hb dX11_attempt_79 hl (by decide) rfl (fun ls hl => ?_)
          refine lv_iload hx hb dX11_attempt_81 (lv_at hl 6 rfl) ?_
          refine lv_istore (lv' := [(6, .int v8), (7, .int x5), (9, .int x5), (0, .ref v0), (2, .int v2), (5, .int v5), (8, .int v8)]) hx hb dX11_attempt_83 hl (by decide) rfl (fun ls hl => ?_)
          exact w_X11_attempt_85 G B hz hc0 hr hlk ih h6 v0 v2 v5 v8 x5 v8 _ _ _ hw (lv_sub hl [3, 4, 5, 0, 1, 6] rfl) hf
set_option maxHeartbeats 4000000 in
theorem c_X11_attempt {l : Launch} {s0 : State} {E : Ev} (G : Gl s0 E) {n : Nat} {z : Sh} {h : Hp} {v0 : Nat} {v1 : Int32} {v2 : Int32} {v3 : Int32} {r : Int32} {h' : Hp} (hf : f_X11_attempt n z h v0 v1 v2 v3 = some (r, h')) : Ct l s0 E yX11_attempt cX11_attempt 10 (some .int) 6 147 [.ref v0, .int v1, .int v2, .int v3] z h h' (some (.int r)) := by
  refine Ct.of G (by decide) (Nat.le_of_ble_eq_true rfl) ?_
  intro p e s m below meth c ls B hw hz hc0 hr hlk hl
  have B : Bd p s0 s E m c cX11_attempt 10 RX11 := B
  have hx := B.1
  have hb := B.2.1
  have hl : lv_has ls 10 [(0, .ref v0), (1, .int v1), (2, .int v2), (3, .int v3)] := hl
  unfold f_X11_attempt at hf
  obtain ⟨_, hf⟩ := if_some hf
  refine lv_aload_n hx hb dX11_attempt_0 rfl (lv_at hl 0 rfl) ?_
  refine lv_iload_n hx hb dX11_attempt_1 rfl (lv_at hl 1 rfl) ?_
  refine lv_iload_n hx hb dX11_attempt_2 rfl (lv_at hl 2 rfl) ?_
  obtain ⟨x1, e, hf⟩ := ob hf
  refine q_callV (As := [.int v1, .int v2]) (rest := []) (st1 := [.int x1]) (c_X11_livedFault G e) B hw hz hc0 (k_X11_livedFault e) (by decide) (ci := 11) rfl rfl my_X11_livedFault mv_X11_livedFault tw_5_154 ⟨Nat.le_of_ble_eq_true rfl, Nat.le_of_ble_eq_true rfl⟩ ⟨Nat.zero_le _, Nat.zero_le _⟩ rfl hl.1 rfl rfl (Nat.le_of_ble_eq_true rfl) dX11_attempt_3 (fun H locs hw => ?_)
  refine lv_istore (lv' := [(4, .int x1), (0, .ref v0), (1, .int v1), (2, .int v2), (3, .int v3)]) hx hb dX11_attempt_6 hl (by decide) rfl (fun ls hl => ?_)
  refine lv_iload hx hb dX11_attempt_8 (lv_at hl 0 rfl) ?_
  refine lv_if_eq (tgt := 19) hx hb dX11_attempt_10 (by decide) (fun c2 => ?_) (fun c2 => ?_)
  · have hf := (if_pos c2).symm.trans hf
    refine lv_aload_n hx hb dX11_attempt_19 rfl (lv_at hl 1 rfl) ?_
    refine lv_aload_n hx hb dX11_attempt_20 rfl (lv_at hl 1 rfl) ?_
    refine lv_iload_n hx hb dX11_attempt_21 rfl (lv_at hl 2 rfl) ?_
    obtain ⟨o3, e, hf⟩ := ob hf
    refine q_callV (As := [.int v1]) (rest := [.ref v0]) (st1 := [va_rf o3, .ref v0]) (c_X11_trayAt G e) B hw hz hc0 (k_X11_trayAt e) (by decide) (ci := 11) rfl rfl my_X11_trayAt mv_X11_trayAt tw_4_95 ⟨Nat.le_of_ble_eq_true rfl, Nat.le_of_ble_eq_true rfl⟩ ⟨Nat.zero_le _, Nat.zero_le _⟩ rfl hl.1 rfl rfl (Nat.le_of_ble_eq_true rfl) dX11_attempt_22 (fun H locs hw => ?_)
    rcases o3 with _ | a4
    · cases hf
    · refine lv_iload_n hx hb dX11_attempt_25 rfl (lv_at hl 3 rfl) ?_
      refine lv_iload_n hx hb dX11_attempt_26 rfl (lv_at hl 4 rfl) ?_
      obtain ⟨⟨x5, h6⟩, e, hf⟩ := ob hf
      refine q_callV (As := [.ref a4, .int v2, .int v3]) (rest := []) (st1 := [.int x5]) (c_X11_fittingTalents G e) B hw hz hc0 (k_X11_fittingTalents e) (by decide) (ci := 11) rfl rfl my_X11_fittingTalents mv_X11_fittingTalents tw_5_159 ⟨Nat.le_of_ble_eq_true rfl, Nat.le_of_ble_eq_true rfl⟩ ⟨Nat.zero_le _, Nat.zero_le _⟩ rfl hl.1 rfl rfl (Nat.le_of_ble_eq_true rfl) dX11_attempt_27 (fun H locs hw => ?_)
      refine lv_istore (lv' := [(5, .int x5), (4, .int x1), (0, .ref v0), (1, .int v1), (2, .int v2), (3, .int v3)]) hx hb dX11_attempt_30 hl (by decide) rfl (fun ls hl => ?_)
      refine lv_iconst (v := (-1)) hx hb dX11_attempt_32 (by decide) ?_
      refine lv_istore (lv' := [(6, .int (-1)), (5, .int x5), (4, .int x1), (0, .ref v0), (1, .int v1), (2, .int v2), (3, .int v3)]) hx hb dX11_attempt_33 hl (by decide) rfl (fun ls hl => ?_)
      refine lv_bipush (v := 11) hx hb dX11_attempt_35 (by decide) ?_
      refine lv_istore (lv' := [(7, .int 11), (6, .int (-1)), (5, .int x5), (4, .int x1), (0, .ref v0), (1, .int v1), (2, .int v2), (3, .int v3)]) hx hb dX11_attempt_37 hl (by decide) rfl (fun ls hl => ?_)
      refine lv_iconst (v := 0) hx hb dX11_attempt_39 (by decide) ?_
      refine lv_istore (lv' := [(8, .int 0), (7, .int 11), (6, .int (-1)), (5, .int x5), (4, .int x1), (0, .ref v0), (1, .int v1), (2, .int v2), (3, .int v3)]) hx hb dX11_attempt_40 hl (by decide) rfl (fun ls hl => ?_)
      exact w_X11_attempt_42 G B hz hc0 hr hlk  n h6 v0 v2 x5 (-1) 11 0 _ _ _ hw (lv_sub hl [5, 7, 3, 2, 1, 0] rfl) hf
  · have hf := (if_neg c2).symm.trans hf
    refine lv_iload hx hb dX11_attempt_13 (lv_at hl 0 rfl) ?_
    obtain ⟨x7, e, hf⟩ := ob hf
    refine q_callS (As := [.int x1]) (rest := []) (st1 := [.int x7]) (c_X11_refused G e) B hw hz hc0 my_X11_refused mv_X11_refused tw_2_155 ⟨Nat.le_of_ble_eq_true rfl, Nat.le_of_ble_eq_true rfl⟩ ⟨Nat.zero_le _, Nat.zero_le _⟩ rfl hl.1 rfl rfl (Nat.le_of_ble_eq_true rfl) dX11_attempt_15 (fun H locs hw => ?_)
    obtain ⟨rfl, rfl⟩ := so2 hf
    exact q_iret B hw hz hc0 hr hlk dX11_attempt_18
/-! SecondLife$Chances.hopeNow(I)J -/
def f_X0_hopeNow (n : Nat) (z : Sh) (h : Hp) (v0 : Nat) (v1 : Int32) : Option (Int64 × Hp × Sh) :=
  if z.K v0 = 0 then
    gd3 z <|
    (gR z h 0 v0 1).bind fun a1 =>
    (gR z h 0 v0 0).bind fun a2 =>
    (gI z h 10 a2 8).bind fun x3 =>
    (f_X1_mostFrom n z h a1 x3).bind fun (x4, h5, z6) =>
    gd3 z6 <|
    (gR z6 h5 0 v0 0).bind fun a7 =>
    (gI z6 h5 10 a7 8).bind fun x8 =>
    (f_X0_hopeFrom n z6 h5 v0 x8 v1).bind fun (x9, h10, z11) =>
    gd3 z11 <|
    some (x9, h10, z11)
  else none
theorem k_X0_hopeNow {n : Nat} {z : Sh} {h : Hp} {v0 : Nat} {v1 : Int32} {w : Int64 × Hp × Sh} (hf : f_X0_hopeNow n z h v0 v1 = some w) : z.K v0 = 0 := by
  unfold f_X0_hopeNow at hf
  exact (if_some hf).1
theorem mo_X0_hopeNow {n : Nat} {z : Sh} {h : Hp} {v0 : Nat} {v1 : Int32} {r : Int64} {h' : Hp} {zE : Sh} (hf : f_X0_hopeNow n z h v0 v1 = some (r, h', zE)) : z.sz ≤ zE.sz ∧ z.sl ≤ zE.sl := by
  unfold f_X0_hopeNow at hf
  exact (gd3_some (if_some hf).2).1
set_option maxHeartbeats 4000000 in
theorem c_X0_hopeNow {l : Launch} {s0 : State} {E : Ev} (G : Gl s0 E) {n : Nat} {z : Sh} {h : Hp} {v0 : Nat} {v1 : Int32} {r : Int64} {h' : Hp} {zE : Sh} (hf : f_X0_hopeNow n z h v0 v1 = some (r, h', zE)) : Ca l s0 E yX0_hopeNow cX0_hopeNow 2 (some .long) 67 3749 [.ref v0, .int v1] z zE h h' (some (.long r)) := by
  refine Ca.of G (by decide +kernel) (Nat.le_of_ble_eq_true rfl) (mo_X0_hopeNow hf) ?_
  intro p e s m below meth c ls B hw hM hr hlk hnm0 hl
  have B : Bd p s0 s E m c cX0_hopeNow 2 RX0 := B
  have hx := B.1
  have hb := B.2.1
  have hl : lv_has ls 2 [(0, .ref v0), (1, .int v1)] := hl
  unfold f_X0_hopeNow at hf
  obtain ⟨_, hf⟩ := if_some hf
  obtain ⟨_, hf⟩ := gd3_some hf
  refine lv_aload_n hx hb dX0_hopeNow_0 rfl (lv_at hl 0 rfl) ?_
  obtain ⟨a1, e, hf⟩ := ob hf
  refine q_getR e B hw fd_0_1.1 fd_0_1.2.1 fd_0_1.2.2.1 fd_0_1.2.2.2.1 fd_0_1.2.2.2.2 rfl tw_2_65 dX0_hopeNow_1 ?_
  refine lv_aload_n hx hb dX0_hopeNow_4 rfl (lv_at hl 0 rfl) ?_
  obtain ⟨a2, e, hf⟩ := ob hf
  refine q_getR e B hw fd_0_0.1 fd_0_0.2.1 fd_0_0.2.2.1 fd_0_0.2.2.2.1 fd_0_0.2.2.2.2 rfl tw_2_64 dX0_hopeNow_5 ?_
  obtain ⟨x3, e, hf⟩ := ob hf
  refine q_getIN e B hw fd_10_8.1 fd_10_8.2.1 fd_10_8.2.2.1 fd_10_8.2.2.2.1 fd_10_8.2.2.2.2 rfl tw_2_1 dX0_hopeNow_8 ?_
  obtain ⟨⟨x4, h5, z6⟩, e, hf⟩ := ob hf
  obtain ⟨hg, hf⟩ := gd3_some hf
  refine q_callVNA (As := [.int x3]) (rest := []) (st1 := [.int x4]) (c_X1_mostFrom G e) (mo_X1_mostFrom e) hg B hw hM (k_X1_mostFrom e) (by decide) (ci := 1) rfl rfl my_X1_mostFrom mv_X1_mostFrom tw_5_115 ⟨Nat.le_of_ble_eq_true rfl, Nat.le_of_ble_eq_true rfl⟩ rfl hl.1 rfl rfl (Nat.le_of_ble_eq_true rfl) dX0_hopeNow_11 (fun H locs hw hM => ?_)
  refine lv_pop hx hb dX0_hopeNow_14 rfl ?_
  refine lv_aload_n hx hb dX0_hopeNow_15 rfl (lv_at hl 0 rfl) ?_
  refine lv_aload_n hx hb dX0_hopeNow_16 rfl (lv_at hl 0 rfl) ?_
  obtain ⟨a7, e, hf⟩ := ob hf
  refine q_getR e B hw fd_0_0.1 fd_0_0.2.1 fd_0_0.2.2.1 fd_0_0.2.2.2.1 fd_0_0.2.2.2.2 rfl tw_2_64 dX0_hopeNow_17 ?_
  obtain ⟨x8, e, hf⟩ := ob hf
  refine q_getIN e B hw fd_10_8.1 fd_10_8.2.1 fd_10_8.2.2.1 fd_10_8.2.2.2.1 fd_10_8.2.2.2.2 rfl tw_2_1 dX0_hopeNow_20 ?_
  refine lv_iload_n hx hb dX0_hopeNow_23 rfl (lv_at hl 1 rfl) ?_
  obtain ⟨⟨x9, h10, z11⟩, e, hf⟩ := ob hf
  obtain ⟨hg, hf⟩ := gd3_some hf
  refine q_callVA (As := [.int x8, .int v1]) (rest := []) (st1 := [.long x9]) (c_X0_hopeFrom G e) (mo_X0_hopeFrom e) hg B hw hM (k_X0_hopeFrom e) (by decide) (ci := 0) rfl rfl my_X0_hopeFrom mv_X0_hopeFrom tw_5_116 ⟨Nat.le_of_ble_eq_true rfl, Nat.le_of_ble_eq_true rfl⟩ rfl hl.1 rfl rfl (Nat.le_of_ble_eq_true rfl) dX0_hopeNow_24 (fun H locs hw hM => ?_)
  obtain ⟨rfl, rfl, rfl⟩ := so3 hf
  exact q_lret B hw hM.hz hM.hc0 hr hlk dX0_hopeNow_27
