/-! SecondLifeModel.keeps()V -/
def f_X12_keeps_2 (n : Nat) (z : Sh) : Nat → Hp → Nat → Int32 → Option (Hp)
  | 0, _, _, _ => none
  | i + 1, h, v0, v1 =>
    if 49 ≤ v1 then
      some h
    else
      (gR z h 12 v0 18).bind fun a2 =>
      (gR z h 12 v0 1).bind fun a3 =>
      (ldI z h a3 (17 + v1)).bind fun x4 =>
      (stI z h a2 v1 x4).bind fun h5 =>
      (some (v1 + 1)).bind fun x6 =>
      (f_X12_keeps_2 n z i) h5 v0 x6
def f_X12_keeps (n : Nat) (z : Sh) (h : Hp) (v0 : Nat) : Option (Hp) :=
  if z.K v0 = 12 then
    f_X12_keeps_2 n z n h v0 0
  else none
theorem k_X12_keeps {n : Nat} {z : Sh} {h : Hp} {v0 : Nat} {w : Hp} (hf : f_X12_keeps n z h v0 = some w) : z.K v0 = 12 := by
  unfold f_X12_keeps at hf
  exact (if_some hf).1
set_option maxHeartbeats 4000000 in
theorem w_X12_keeps_2 {p : Program} {l : Launch} {e : Env} {s : State} {m : MethodId} {args : Array Value} {below : List Frame} {meth : Method} {c : Code} {s0 : State} {E : Ev} {z : Sh} {n : Nat} {h' : Hp} (G : Gl s0 E) (B : Bd p s0 s E m c cX12_keeps 2 RX12) (hz : s0.heap.size ≤ z.sz) (hc0 : s.heap.size + 0 = z.sz) (hr : meth.sig.returnType = none) (hlk : meth.locks = false) : ∀ (i : Nat), ∀ (h : Hp) (v0 : Nat) (v1 : Int32) (H : Heap) (locs : List Loc) (ls : Array Slot), Pw s0 s E z h H locs → lv_has ls 2 [(0, .ref v0), (1, .int v1)] → f_X12_keeps_2 n z i h v0 v1 = some h' → W p l e (rmO 0 0) s m args below meth c H locs 0 0 (Zt below s0 E z h' (none) args s 0 0) (F0 m 2 ls []) := by
  have hx := B.1
  have hb := B.2.1
  intro i
  induction i with
  | zero =>
    intro h v0 v1 H locs ls hw hl hf
    have hf := (f_X12_keeps_2.eq_1 ..).symm.trans hf
    cases hf
  | succ i ih =>
    intro h v0 v1 H locs ls hw hl hf
    have hf := (f_X12_keeps_2.eq_2 ..).symm.trans hf
    refine lv_iload_n hx hb dX12_keeps_2 rfl (lv_at hl 1 rfl) ?_
    refine lv_bipush (v := 49) hx hb dX12_keeps_3 (by decide) ?_
    refine lv_icmp_ge (tgt := 29) hx hb dX12_keeps_5 (by decide) (fun c1 => ?_) (fun c1 => ?_)
    · have hf := (if_pos c1).symm.trans hf
      obtain rfl := so hf
      exact q_vret B hw hz hc0 hr hlk dX12_keeps_29
    · have hf := (if_neg c1).symm.trans hf
      refine lv_aload_n hx hb dX12_keeps_8 rfl (lv_at hl 0 rfl) ?_
      obtain ⟨a2, e, hf⟩ := ob hf
      refine q_getR e B hw fd_12_18.1 fd_12_18.2.1 fd_12_18.2.2.1 fd_12_18.2.2.2.1 fd_12_18.2.2.2.2 rfl tw_6_61 dX12_keeps_9 ?_
      refine lv_iload_n hx hb dX12_keeps_12 rfl (lv_at hl 1 rfl) ?_
      refine lv_aload_n hx hb dX12_keeps_13 rfl (lv_at hl 0 rfl) ?_
      obtain ⟨a3, e, hf⟩ := ob hf
      refine q_getR e B hw fd_12_1.1 fd_12_1.2.1 fd_12_1.2.2.1 fd_12_1.2.2.2.1 fd_12_1.2.2.2.2 rfl tw_6_44 dX12_keeps_14 ?_
      refine lv_bipush (v := 17) hx hb dX12_keeps_17 (by decide) ?_
      refine lv_iload_n hx hb dX12_keeps_19 rfl (lv_at hl 1 rfl) ?_
      refine lv_iadd hx hb dX12_keeps_20 ?_
      obtain ⟨x4, e, hf⟩ := ob hf
      refine q_ldI e B hw dX12_keeps_21 ?_
      obtain ⟨h5, e, hf⟩ := ob hf
      refine q_stI e B hw dX12_keeps_22 (fun H locs hw => ?_)
      obtain ⟨x6, e, hf⟩ := ob hf
      refine lv_iinc (v := x6) (lv' := [(1, .int x6), (0, .ref v0)]) hx hb dX12_keeps_23 hl (k := 1) rfl (Option.some.inj e) (by decide) rfl (fun ls hl => ?_)
      refine lv_goto (tgt := 2) hx hb dX12_keeps_26 (by decide) ?_
      exact ih h5 v0 x6 _ _ _ hw (lv_sub hl [1, 0] rfl) hf
set_option maxHeartbeats 4000000 in
theorem c_X12_keeps {l : Launch} {s0 : State} {E : Ev} (G : Gl s0 E) {n : Nat} {z : Sh} {h : Hp} {v0 : Nat} {h' : Hp} (hf : f_X12_keeps n z h v0 = some h') : Ct l s0 E yX12_keeps cX12_keeps 2 none 0 0 [.ref v0] z h h' (none) := by
  refine Ct.of G (by decide) (Nat.le_of_ble_eq_true rfl) ?_
  intro p e s m below meth c ls B hw hz hc0 hr hlk hl
  have B : Bd p s0 s E m c cX12_keeps 2 RX12 := B
  have hx := B.1
  have hb := B.2.1
  have hl : lv_has ls 2 [(0, .ref v0)] := hl
  unfold f_X12_keeps at hf
  obtain ⟨_, hf⟩ := if_some hf
  refine lv_iconst (v := 0) hx hb dX12_keeps_0 (by decide) ?_
  refine lv_istore_n (lv' := [(1, .int 0), (0, .ref v0)]) hx hb dX12_keeps_1 rfl hl (by decide) rfl (fun ls hl => ?_)
  exact w_X12_keeps_2 G B hz hc0 hr hlk  n h v0 0 _ _ _ hw (lv_sub hl [1, 0] rfl) hf
/-! SecondLifeModel.isAgain()V -/
def f_X12_isAgain_2 (n : Nat) (z : Sh) : Nat → Hp → Nat → Int32 → Option (Hp)
  | 0, _, _, _ => none
  | i + 1, h, v0, v1 =>
    if 49 ≤ v1 then
      some h
    else
      (gR z h 12 v0 1).bind fun a2 =>
      (gR z h 12 v0 18).bind fun a3 =>
      (ldI z h a3 v1).bind fun x4 =>
      (stI z h a2 (17 + v1) x4).bind fun h5 =>
      (some (v1 + 1)).bind fun x6 =>
      (f_X12_isAgain_2 n z i) h5 v0 x6
def f_X12_isAgain (n : Nat) (z : Sh) (h : Hp) (v0 : Nat) : Option (Hp) :=
  if z.K v0 = 12 then
    f_X12_isAgain_2 n z n h v0 0
  else none
theorem k_X12_isAgain {n : Nat} {z : Sh} {h : Hp} {v0 : Nat} {w : Hp} (hf : f_X12_isAgain n z h v0 = some w) : z.K v0 = 12 := by
  unfold f_X12_isAgain at hf
  exact (if_some hf).1
set_option maxHeartbeats 4000000 in
theorem w_X12_isAgain_2 {p : Program} {l : Launch} {e : Env} {s : State} {m : MethodId} {args : Array Value} {below : List Frame} {meth : Method} {c : Code} {s0 : State} {E : Ev} {z : Sh} {n : Nat} {h' : Hp} (G : Gl s0 E) (B : Bd p s0 s E m c cX12_isAgain 2 RX12) (hz : s0.heap.size ≤ z.sz) (hc0 : s.heap.size + 0 = z.sz) (hr : meth.sig.returnType = none) (hlk : meth.locks = false) : ∀ (i : Nat), ∀ (h : Hp) (v0 : Nat) (v1 : Int32) (H : Heap) (locs : List Loc) (ls : Array Slot), Pw s0 s E z h H locs → lv_has ls 2 [(0, .ref v0), (1, .int v1)] → f_X12_isAgain_2 n z i h v0 v1 = some h' → W p l e (rmO 0 0) s m args below meth c H locs 0 0 (Zt below s0 E z h' (none) args s 0 0) (F0 m 2 ls []) := by
  have hx := B.1
  have hb := B.2.1
  intro i
  induction i with
  | zero =>
    intro h v0 v1 H locs ls hw hl hf
    have hf := (f_X12_isAgain_2.eq_1 ..).symm.trans hf
    cases hf
  | succ i ih =>
    intro h v0 v1 H locs ls hw hl hf
    have hf := (f_X12_isAgain_2.eq_2 ..).symm.trans hf
    refine lv_iload_n hx hb dX12_isAgain_2 rfl (lv_at hl 1 rfl) ?_
    refine lv_bipush (v := 49) hx hb dX12_isAgain_3 (by decide) ?_
    refine lv_icmp_ge (tgt := 29) hx hb dX12_isAgain_5 (by decide) (fun c1 => ?_) (fun c1 => ?_)
    · have hf := (if_pos c1).symm.trans hf
      obtain rfl := so hf
      exact q_vret B hw hz hc0 hr hlk dX12_isAgain_29
    · have hf := (if_neg c1).symm.trans hf
      refine lv_aload_n hx hb dX12_isAgain_8 rfl (lv_at hl 0 rfl) ?_
      obtain ⟨a2, e, hf⟩ := ob hf
      refine q_getR e B hw fd_12_1.1 fd_12_1.2.1 fd_12_1.2.2.1 fd_12_1.2.2.2.1 fd_12_1.2.2.2.2 rfl tw_6_44 dX12_isAgain_9 ?_
      refine lv_bipush (v := 17) hx hb dX12_isAgain_12 (by decide) ?_
      refine lv_iload_n hx hb dX12_isAgain_14 rfl (lv_at hl 1 rfl) ?_
      refine lv_iadd hx hb dX12_isAgain_15 ?_
      refine lv_aload_n hx hb dX12_isAgain_16 rfl (lv_at hl 0 rfl) ?_
      obtain ⟨a3, e, hf⟩ := ob hf
      refine q_getR e B hw fd_12_18.1 fd_12_18.2.1 fd_12_18.2.2.1 fd_12_18.2.2.2.1 fd_12_18.2.2.2.2 rfl tw_6_61 dX12_isAgain_17 ?_
      refine lv_iload_n hx hb dX12_isAgain_20 rfl (lv_at hl 1 rfl) ?_
      obtain ⟨x4, e, hf⟩ := ob hf
      refine q_ldI e B hw dX12_isAgain_21 ?_
      obtain ⟨h5, e, hf⟩ := ob hf
      refine q_stI e B hw dX12_isAgain_22 (fun H locs hw => ?_)
      obtain ⟨x6, e, hf⟩ := ob hf
      refine lv_iinc (v := x6) (lv' := [(1, .int x6), (0, .ref v0)]) hx hb dX12_isAgain_23 hl (k := 1) rfl (Option.some.inj e) (by decide) rfl (fun ls hl => ?_)
      refine lv_goto (tgt := 2) hx hb dX12_isAgain_26 (by decide) ?_
      exact ih h5 v0 x6 _ _ _ hw (lv_sub hl [1, 0] rfl) hf
set_option maxHeartbeats 4000000 in
theorem c_X12_isAgain {l : Launch} {s0 : State} {E : Ev} (G : Gl s0 E) {n : Nat} {z : Sh} {h : Hp} {v0 : Nat} {h' : Hp} (hf : f_X12_isAgain n z h v0 = some h') : Ct l s0 E yX12_isAgain cX12_isAgain 2 none 0 0 [.ref v0] z h h' (none) := by
  refine Ct.of G (by decide) (Nat.le_of_ble_eq_true rfl) ?_
  intro p e s m below meth c ls B hw hz hc0 hr hlk hl
  have B : Bd p s0 s E m c cX12_isAgain 2 RX12 := B
  have hx := B.1
  have hb := B.2.1
  have hl : lv_has ls 2 [(0, .ref v0)] := hl
  unfold f_X12_isAgain at hf
  obtain ⟨_, hf⟩ := if_some hf
  refine lv_iconst (v := 0) hx hb dX12_isAgain_0 (by decide) ?_
  refine lv_istore_n (lv' := [(1, .int 0), (0, .ref v0)]) hx hb dX12_isAgain_1 rfl hl (by decide) rfl (fun ls hl => ?_)
  exact w_X12_isAgain_2 G B hz hc0 hr hlk  n h v0 0 _ _ _ hw (lv_sub hl [1, 0] rfl) hf
/-! SecondLifeModel.notes()V -/
def f_X12_notes_58 (n : Nat) (z : Sh) : Nat → Hp → Nat → Int32 → Option (Hp)
  | 0, _, _, _ => none
  | i + 1, h, v0, v1 =>
    if 49 ≤ v1 then
      (gR z h 12 v0 1).bind fun a2 =>
      (ldI z h a2 66).bind fun x3 =>
      (stI z h a2 66 (x3 + 1)).bind fun h4 =>
      some h4
    else
      (gR z h 12 v0 1).bind fun a5 =>
      (gR z h 12 v0 1).bind fun a6 =>
      (ldI z h a6 66).bind fun x7 =>
      (gR z h 12 v0 18).bind fun a8 =>
      (ldI z h a8 v1).bind fun x9 =>
      (stI z h a5 ((67 + (49 * x7)) + v1) x9).bind fun h10 =>
      (some (v1 + 1)).bind fun x11 =>
      (f_X12_notes_58 n z i) h10 v0 x11
def f_X12_notes_56 (n : Nat) (z : Sh) (h : Hp) (v0 : Nat) : Option (Hp) :=
  f_X12_notes_58 n z n h v0 0
def f_X12_notes_14 (n : Nat) (z : Sh) : Nat → Hp → Nat → Int32 → Option (Hp)
  | 0, _, _, _ => none
  | i + 1, h, v0, v1 =>
    if 441 ≤ v1 then
      (gR z h 12 v0 1).bind fun a2 =>
      (ldI z h a2 66).bind fun x3 =>
      (stI z h a2 66 (x3 - 1)).bind fun h4 =>
      f_X12_notes_56 n z h4 v0
    else
      (gR z h 12 v0 1).bind fun a5 =>
      (gR z h 12 v0 1).bind fun a6 =>
      (ldI z h a6 (116 + v1)).bind fun x7 =>
      (stI z h a5 (67 + v1) x7).bind fun h8 =>
      (some (v1 + 1)).bind fun x9 =>
      (f_X12_notes_14 n z i) h8 v0 x9
def f_X12_notes (n : Nat) (z : Sh) (h : Hp) (v0 : Nat) : Option (Hp) :=
  if z.K v0 = 12 then
    (gR z h 12 v0 1).bind fun a1 =>
    (ldI z h a1 66).bind fun x2 =>
    if x2 = 10 then
      f_X12_notes_14 n z n h v0 0
    else
      f_X12_notes_56 n z h v0
  else none
theorem k_X12_notes {n : Nat} {z : Sh} {h : Hp} {v0 : Nat} {w : Hp} (hf : f_X12_notes n z h v0 = some w) : z.K v0 = 12 := by
  unfold f_X12_notes at hf
  exact (if_some hf).1
set_option maxHeartbeats 4000000 in
theorem w_X12_notes_58 {p : Program} {l : Launch} {e : Env} {s : State} {m : MethodId} {args : Array Value} {below : List Frame} {meth : Method} {c : Code} {s0 : State} {E : Ev} {z : Sh} {n : Nat} {h' : Hp} (G : Gl s0 E) (B : Bd p s0 s E m c cX12_notes 2 RX12) (hz : s0.heap.size ≤ z.sz) (hc0 : s.heap.size + 0 = z.sz) (hr : meth.sig.returnType = none) (hlk : meth.locks = false) : ∀ (i : Nat), ∀ (h : Hp) (v0 : Nat) (v1 : Int32) (H : Heap) (locs : List Loc) (ls : Array Slot), Pw s0 s E z h H locs → lv_has ls 2 [(0, .ref v0), (1, .int v1)] → f_X12_notes_58 n z i h v0 v1 = some h' → W p l e (rmO 0 0) s m args below meth c H locs 0 0 (Zt below s0 E z h' (none) args s 0 0) (F0 m 58 ls []) := by
  have hx := B.1
  have hb := B.2.1
  intro i
  induction i with
  | zero =>
    intro h v0 v1 H locs ls hw hl hf
    have hf := (f_X12_notes_58.eq_1 ..).symm.trans hf
    cases hf
  | succ i ih =>
    intro h v0 v1 H locs ls hw hl hf
    have hf := (f_X12_notes_58.eq_2 ..).symm.trans hf
    refine lv_iload_n hx hb dX12_notes_58 rfl (lv_at hl 1 rfl) ?_
    refine lv_bipush (v := 49) hx hb dX12_notes_59 (by decide) ?_
    refine lv_icmp_ge (tgt := 96) hx hb dX12_notes_61 (by decide) (fun c1 => ?_) (fun c1 => ?_)
    · have hf := (if_pos c1).symm.trans hf
      refine lv_aload_n hx hb dX12_notes_96 rfl (lv_at hl 0 rfl) ?_
      obtain ⟨a2, e, hf⟩ := ob hf
      refine q_getR e B hw fd_12_1.1 fd_12_1.2.1 fd_12_1.2.2.1 fd_12_1.2.2.2.1 fd_12_1.2.2.2.2 rfl tw_6_44 dX12_notes_97 ?_
      refine lv_bipush (v := 66) hx hb dX12_notes_100 (by decide) ?_
      refine lv_dup2_11 hx hb dX12_notes_102 rfl rfl ?_
      obtain ⟨x3, e, hf⟩ := ob hf
      refine q_ldI e B hw dX12_notes_103 ?_
      refine lv_iconst (v := 1) hx hb dX12_notes_104 (by decide) ?_
      refine lv_iadd hx hb dX12_notes_105 ?_
      obtain ⟨h4, e, hf⟩ := ob hf
      refine q_stI e B hw dX12_notes_106 (fun H locs hw => ?_)
      obtain rfl := so hf
      exact q_vret B hw hz hc0 hr hlk dX12_notes_107
    · have hf := (if_neg c1).symm.trans hf
      refine lv_aload_n hx hb dX12_notes_64 rfl (lv_at hl 0 rfl) ?_
      obtain ⟨a5, e, hf⟩ := ob hf
      refine q_getR e B hw fd_12_1.1 fd_12_1.2.1 fd_12_1.2.2.1 fd_12_1.2.2.2.1 fd_12_1.2.2.2.2 rfl tw_6_44 dX12_notes_65 ?_
      refine lv_bipush (v := 67) hx hb dX12_notes_68 (by decide) ?_
      refine lv_bipush (v := 49) hx hb dX12_notes_70 (by decide) ?_
      refine lv_aload_n hx hb dX12_notes_72 rfl (lv_at hl 0 rfl) ?_
      obtain ⟨a6, e, hf⟩ := ob hf
      refine q_getR e B hw fd_12_1.1 fd_12_1.2.1 fd_12_1.2.2.1 fd_12_1.2.2.2.1 fd_12_1.2.2.2.2 rfl tw_6_44 dX12_notes_73 ?_
      refine lv_bipush (v := 66) hx hb dX12_notes_76 (by decide) ?_
      obtain ⟨x7, e, hf⟩ := ob hf
      refine q_ldI e B hw dX12_notes_78 ?_
      refine lv_imul hx hb dX12_notes_79 ?_
      refine lv_iadd hx hb dX12_notes_80 ?_
      refine lv_iload_n hx hb dX12_notes_81 rfl (lv_at hl 1 rfl) ?_
      refine lv_iadd hx hb dX12_notes_82 ?_
      refine lv_aload_n hx hb dX12_notes_83 rfl (lv_at hl 0 rfl) ?_
      obtain ⟨a8, e, hf⟩ := ob hf
      refine q_getR e B hw fd_12_18.1 fd_12_18.2.1 fd_12_18.2.2.1 fd_12_18.2.2.2.1 fd_12_18.2.2.2.2 rfl tw_6_61 dX12_notes_84 ?_
      refine lv_iload_n hx hb dX12_notes_87 rfl (lv_at hl 1 rfl) ?_
      obtain ⟨x9, e, hf⟩ := ob hf
      refine q_ldI e B hw dX12_notes_88 ?_
      obtain ⟨h10, e, hf⟩ := ob hf
      refine q_stI e B hw dX12_notes_89 (fun H locs hw => ?_)
      obtain ⟨x11, e, hf⟩ := ob hf
      refine lv_iinc (v := x11) (lv' := [(1, .int x11), (0, .ref v0)]) hx hb dX12_notes_90 hl (k := 1) rfl (Option.some.inj e) (by decide) rfl (fun ls hl => ?_)
      refine lv_goto (tgt := 58) hx hb dX12_notes_93 (by decide) ?_
      exact ih h10 v0 x11 _ _ _ hw (lv_sub hl [1, 0] rfl) hf
set_option maxHeartbeats 4000000 in
theorem w_X12_notes_56 {p : Program} {l : Launch} {e : Env} {s : State} {m : MethodId} {args : Array Value} {below : List Frame} {meth : Method} {c : Code} {s0 : State} {E : Ev} {z : Sh} {n : Nat} {h' : Hp} (G : Gl s0 E) (B : Bd p s0 s E m c cX12_notes 2 RX12) (hz : s0.heap.size ≤ z.sz) (hc0 : s.heap.size + 0 = z.sz) (hr : meth.sig.returnType = none) (hlk : meth.locks = false) : ∀ (h : Hp) (v0 : Nat) (H : Heap) (locs : List Loc) (ls : Array Slot), Pw s0 s E z h H locs → lv_has ls 2 [(0, .ref v0)] → f_X12_notes_56 n z h v0 = some h' → W p l e (rmO 0 0) s m args below meth c H locs 0 0 (Zt below s0 E z h' (none) args s 0 0) (F0 m 56 ls []) := by
  have hx := B.1
  have hb := B.2.1
  intro h v0 H locs ls hw hl hf
  unfold f_X12_notes_56 at hf
  refine lv_iconst (v := 0) hx hb dX12_notes_56 (by decide) ?_
  refine lv_istore_n (lv' := [(1, .int 0), (0, .ref v0)]) hx hb dX12_notes_57 rfl hl (by decide) rfl (fun ls hl => ?_)
  exact w_X12_notes_58 G B hz hc0 hr hlk  n h v0 0 _ _ _ hw (lv_sub hl [1, 0] rfl) hf
set_option maxHeartbeats 4000000 in
theorem w_X12_notes_14 {p : Program} {l : Launch} {e : Env} {s : State} {m : MethodId} {args : Array Value} {below : List Frame} {meth : Method} {c : Code} {s0 : State} {E : Ev} {z : Sh} {n : Nat} {h' : Hp} (G : Gl s0 E) (B : Bd p s0 s E m c cX12_notes 2 RX12) (hz : s0.heap.size ≤ z.sz) (hc0 : s.heap.size + 0 = z.sz) (hr : meth.sig.returnType = none) (hlk : meth.locks = false) : ∀ (i : Nat), ∀ (h : Hp) (v0 : Nat) (v1 : Int32) (H : Heap) (locs : List Loc) (ls : Array Slot), Pw s0 s E z h H locs → lv_has ls 2 [(0, .ref v0), (1, .int v1)] → f_X12_notes_14 n z i h v0 v1 = some h' → W p l e (rmO 0 0) s m args below meth c H locs 0 0 (Zt below s0 E z h' (none) args s 0 0) (F0 m 14 ls []) := by
  have hx := B.1
  have hb := B.2.1
  intro i
  induction i with
  | zero =>
    intro h v0 v1 H locs ls hw hl hf
    have hf := (f_X12_notes_14.eq_1 ..).symm.trans hf
    cases hf
  | succ i ih =>
    intro h v0 v1 H locs ls hw hl hf
    have hf := (f_X12_notes_14.eq_2 ..).symm.trans hf
    refine lv_iload_n hx hb dX12_notes_14 rfl (lv_at hl 1 rfl) ?_
    refine lv_sipush (v := 441) hx hb dX12_notes_15 (by decide) ?_
    refine lv_icmp_ge (tgt := 45) hx hb dX12_notes_18 (by decide) (fun c1 => ?_) (fun c1 => ?_)
    · have hf := (if_pos c1).symm.trans hf
      refine lv_aload_n hx hb dX12_notes_45 rfl (lv_at hl 0 rfl) ?_
      obtain ⟨a2, e, hf⟩ := ob hf
      refine q_getR e B hw fd_12_1.1 fd_12_1.2.1 fd_12_1.2.2.1 fd_12_1.2.2.2.1 fd_12_1.2.2.2.2 rfl tw_6_44 dX12_notes_46 ?_
      refine lv_bipush (v := 66) hx hb dX12_notes_49 (by decide) ?_
      refine lv_dup2_11 hx hb dX12_notes_51 rfl rfl ?_
      obtain ⟨x3, e, hf⟩ := ob hf
      refine q_ldI e B hw dX12_notes_52 ?_
      refine lv_iconst (v := 1) hx hb dX12_notes_53 (by decide) ?_
      refine lv_isub hx hb dX12_notes_54 ?_
      obtain ⟨h4, e, hf⟩ := ob hf
      refine q_stI e B hw dX12_notes_55 (fun H locs hw => ?_)
      exact w_X12_notes_56 G B hz hc0 hr hlk  h4 v0 _ _ _ hw (lv_sub hl [0] rfl) hf
    · have hf := (if_neg c1).symm.trans hf
      refine lv_aload_n hx hb dX12_notes_21 rfl (lv_at hl 0 rfl) ?_
      obtain ⟨a5, e, hf⟩ := ob hf
      refine q_getR e B hw fd_12_1.1 fd_12_1.2.1 fd_12_1.2.2.1 fd_12_1.2.2.2.1 fd_12_1.2.2.2.2 rfl tw_6_44 dX12_notes_22 ?_
      refine lv_bipush (v := 67) hx hb dX12_notes_25 (by decide) ?_
      refine lv_iload_n hx hb dX12_notes_27 rfl (lv_at hl 1 rfl) ?_
      refine lv_iadd hx hb dX12_notes_28 ?_
      refine lv_aload_n hx hb dX12_notes_29 rfl (lv_at hl 0 rfl) ?_
      obtain ⟨a6, e, hf⟩ := ob hf
      refine q_getR e B hw fd_12_1.1 fd_12_1.2.1 fd_12_1.2.2.1 fd_12_1.2.2.2.1 fd_12_1.2.2.2.2 rfl tw_6_44 dX12_notes_30 ?_
      refine lv_bipush (v := 116) hx hb dX12_notes_33 (by decide) ?_
      refine lv_iload_n hx hb dX12_notes_35 rfl (lv_at hl 1 rfl) ?_
      refine lv_iadd hx hb dX12_notes_36 ?_
      obtain ⟨x7, e, hf⟩ := ob hf
      refine q_ldI e B hw dX12_notes_37 ?_
      obtain ⟨h8, e, hf⟩ := ob hf
      refine q_stI e B hw dX12_notes_38 (fun H locs hw => ?_)
      obtain ⟨x9, e, hf⟩ := ob hf
      refine lv_iinc (v := x9) (lv' := [(1, .int x9), (0, .ref v0)]) hx hb dX12_notes_39 hl (k := 1) rfl (Option.some.inj e) (by decide) rfl (fun ls hl => ?_)
      refine lv_goto (tgt := 14) hx hb dX12_notes_42 (by decide) ?_
      exact ih h8 v0 x9 _ _ _ hw (lv_sub hl [1, 0] rfl) hf
set_option maxHeartbeats 4000000 in
theorem c_X12_notes {l : Launch} {s0 : State} {E : Ev} (G : Gl s0 E) {n : Nat} {z : Sh} {h : Hp} {v0 : Nat} {h' : Hp} (hf : f_X12_notes n z h v0 = some h') : Ct l s0 E yX12_notes cX12_notes 2 none 0 0 [.ref v0] z h h' (none) := by
  refine Ct.of G (by decide) (Nat.le_of_ble_eq_true rfl) ?_
  intro p e s m below meth c ls B hw hz hc0 hr hlk hl
  have B : Bd p s0 s E m c cX12_notes 2 RX12 := B
  have hx := B.1
  have hb := B.2.1
  have hl : lv_has ls 2 [(0, .ref v0)] := hl
  unfold f_X12_notes at hf
  obtain ⟨_, hf⟩ := if_some hf
  refine lv_aload_n hx hb dX12_notes_0 rfl (lv_at hl 0 rfl) ?_
  obtain ⟨a1, e, hf⟩ := ob hf
  refine q_getR e B hw fd_12_1.1 fd_12_1.2.1 fd_12_1.2.2.1 fd_12_1.2.2.2.1 fd_12_1.2.2.2.2 rfl tw_6_44 dX12_notes_1 ?_
  refine lv_bipush (v := 66) hx hb dX12_notes_4 (by decide) ?_
  obtain ⟨x2, e, hf⟩ := ob hf
  refine q_ldI e B hw dX12_notes_6 ?_
  refine lv_bipush (v := 10) hx hb dX12_notes_7 (by decide) ?_
  refine lv_icmp_ne (tgt := 56) hx hb dX12_notes_9 (by decide) (fun c3 => ?_) (fun c3 => ?_)
  · have hf := (if_neg c3).symm.trans hf
    exact w_X12_notes_56 G B hz hc0 hr hlk  h v0 _ _ _ hw (lv_sub hl [0] rfl) hf
  · have hf := (if_pos c3).symm.trans hf
    refine lv_iconst (v := 0) hx hb dX12_notes_12 (by decide) ?_
    refine lv_istore_n (lv' := [(1, .int 0), (0, .ref v0)]) hx hb dX12_notes_13 rfl hl (by decide) rfl (fun ls hl => ?_)
    exact w_X12_notes_14 G B hz hc0 hr hlk  n h v0 0 _ _ _ hw (lv_sub hl [1, 0] rfl) hf
/-! SecondLifeModel.whyLive(JJ)I -/
def f_X12_whyLive (z : Sh) (h : Hp) (v0 : Nat) (v1 : Int64) (v3 : Int64) : Option (Int32) :=
  if z.K v0 = 12 then
    (f_X12_isPerson z h v0 v1).bind fun x1 =>
    if x1 = 0 then
      some (1 : Int32)
    else
      (f_X12_isTrade z h v0 v3).bind fun x3 =>
      if x3 = 0 then
        some (1 : Int32)
      else
        (f_X12_standNow z h v0 (Int64.toInt32 v1)).bind fun x5 =>
        (f_X12_isOver z h v0 x5).bind fun x6 =>
        if x6 = 0 then
          some (0 : Int32)
        else
          some (2 : Int32)
  else none
theorem k_X12_whyLive {z : Sh} {h : Hp} {v0 : Nat} {v1 : Int64} {v3 : Int64} {w : Int32} (hf : f_X12_whyLive z h v0 v1 v3 = some w) : z.K v0 = 12 := by
  unfold f_X12_whyLive at hf
  exact (if_some hf).1
set_option maxHeartbeats 4000000 in
theorem c_X12_whyLive {l : Launch} {s0 : State} {E : Ev} (G : Gl s0 E) {z : Sh} {h : Hp} {v0 : Nat} {v1 : Int64} {v3 : Int64} {r : Int32} (hf : f_X12_whyLive z h v0 v1 v3 = some r) : Ct l s0 E yX12_whyLive cX12_whyLive 5 (some .int) 2 47 [.ref v0, .long v1, .long v3] z h h (some (.int r)) := by
  refine Ct.of G (by decide) (Nat.le_of_ble_eq_true rfl) ?_
  intro p e s m below meth c ls B hw hz hc0 hr hlk hl
  have B : Bd p s0 s E m c cX12_whyLive 5 RX12 := B
  have hx := B.1
  have hb := B.2.1
  have hl : lv_has ls 5 [(0, .ref v0), (1, .long v1), (3, .long v3)] := hl
  unfold f_X12_whyLive at hf
  obtain ⟨_, hf⟩ := if_some hf
  refine lv_aload_n hx hb dX12_whyLive_0 rfl (lv_at hl 0 rfl) ?_
  refine lv_lload_n hx hb dX12_whyLive_1 rfl (lv_at hl 1 rfl) ?_
  obtain ⟨x1, e, hf⟩ := ob hf
  refine q_callV (As := [.long v1]) (rest := []) (st1 := [.int x1]) (c_X12_isPerson G e) B hw hz hc0 (k_X12_isPerson e) (by decide) (ci := 12) rfl rfl my_X12_isPerson mv_X12_isPerson tw_7_35 ⟨Nat.le_of_ble_eq_true rfl, Nat.le_of_ble_eq_true rfl⟩ ⟨Nat.zero_le _, Nat.zero_le _⟩ rfl hl.1 rfl rfl (Nat.le_of_ble_eq_true rfl) dX12_whyLive_2 (fun H locs hw => ?_)
  refine lv_if_eq (tgt := 16) hx hb dX12_whyLive_5 (by decide) (fun c2 => ?_) (fun c2 => ?_)
  · have hf := (if_pos c2).symm.trans hf
    refine lv_iconst (v := 1) hx hb dX12_whyLive_16 (by decide) ?_
    refine lv_goto (tgt := 38) hx hb dX12_whyLive_17 (by decide) ?_
    obtain rfl := so hf
    exact q_iret B hw hz hc0 hr hlk dX12_whyLive_38
  · have hf := (if_neg c2).symm.trans hf
    refine lv_aload_n hx hb dX12_whyLive_8 rfl (lv_at hl 0 rfl) ?_
    refine lv_lload_n hx hb dX12_whyLive_9 rfl (lv_at hl 2 rfl) ?_
    obtain ⟨x3, e, hf⟩ := ob hf
    refine q_callV (As := [.long v3]) (rest := []) (st1 := [.int x3]) (c_X12_isTrade G e) B hw hz hc0 (k_X12_isTrade e) (by decide) (ci := 12) rfl rfl my_X12_isTrade mv_X12_isTrade tw_7_44 ⟨Nat.le_of_ble_eq_true rfl, Nat.le_of_ble_eq_true rfl⟩ ⟨Nat.zero_le _, Nat.zero_le _⟩ rfl hl.1 rfl rfl (Nat.le_of_ble_eq_true rfl) dX12_whyLive_10 (fun H locs hw => ?_)
    refine lv_if_ne (tgt := 20) hx hb dX12_whyLive_13 (by decide) (fun c4 => ?_) (fun c4 => ?_)
    · have hf := (if_neg c4).symm.trans hf
      refine lv_aload_n hx hb dX12_whyLive_20 rfl (lv_at hl 0 rfl) ?_
      refine lv_aload_n hx hb dX12_whyLive_21 rfl (lv_at hl 0 rfl) ?_
      refine lv_lload_n hx hb dX12_whyLive_22 rfl (lv_at hl 1 rfl) ?_
      refine lv_l2i (v := (Int64.toInt32 v1)) hx hb dX12_whyLive_23 rfl ?_
      obtain ⟨x5, e, hf⟩ := ob hf
      refine q_callV (As := [.int (Int64.toInt32 v1)]) (rest := [.ref v0]) (st1 := [.int x5, .ref v0]) (c_X12_standNow G e) B hw hz hc0 (k_X12_standNow e) (by decide) (ci := 12) rfl rfl my_X12_standNow mv_X12_standNow tw_7_48 ⟨Nat.le_of_ble_eq_true rfl, Nat.le_of_ble_eq_true rfl⟩ ⟨Nat.zero_le _, Nat.zero_le _⟩ rfl hl.1 rfl rfl (Nat.le_of_ble_eq_true rfl) dX12_whyLive_24 (fun H locs hw => ?_)
      obtain ⟨x6, e, hf⟩ := ob hf
      refine q_callV (As := [.int x5]) (rest := []) (st1 := [.int x6]) (c_X12_isOver G e) B hw hz hc0 (k_X12_isOver e) (by decide) (ci := 12) rfl rfl my_X12_isOver mv_X12_isOver tw_7_55 ⟨Nat.le_of_ble_eq_true rfl, Nat.le_of_ble_eq_true rfl⟩ ⟨Nat.zero_le _, Nat.zero_le _⟩ rfl hl.1 rfl rfl (Nat.le_of_ble_eq_true rfl) dX12_whyLive_27 (fun H locs hw => ?_)
      refine lv_if_eq (tgt := 37) hx hb dX12_whyLive_30 (by decide) (fun c7 => ?_) (fun c7 => ?_)
      · have hf := (if_pos c7).symm.trans hf
        refine lv_iconst (v := 0) hx hb dX12_whyLive_37 (by decide) ?_
        obtain rfl := so hf
        exact q_iret B hw hz hc0 hr hlk dX12_whyLive_38
      · have hf := (if_neg c7).symm.trans hf
        refine lv_iconst (v := 2) hx hb dX12_whyLive_33 (by decide) ?_
        refine lv_goto (tgt := 38) hx hb dX12_whyLive_34 (by decide) ?_
        obtain rfl := so hf
        exact q_iret B hw hz hc0 hr hlk dX12_whyLive_38
    · have hf := (if_pos c4).symm.trans hf
      refine lv_iconst (v := 1) hx hb dX12_whyLive_16 (by decide) ?_
      refine lv_goto (tgt := 38) hx hb dX12_whyLive_17 (by decide) ?_
      obtain rfl := so hf
      exact q_iret B hw hz hc0 hr hlk dX12_whyLive_38
/-! SecondLifeModel.whyDraw(J)I -/
def f_X12_whyDraw (z : Sh) (h : Hp) (v0 : Nat) (v1 : Int64) : Option (Int32) :=
  if z.K v0 = 12 then
    (f_X12_isPerson z h v0 v1).bind fun x1 =>
    if x1 = 0 then
      some (1 : Int32)
    else
      (gR z h 12 v0 1).bind fun a3 =>
      (ldI z h a3 (24 + (Int64.toInt32 v1))).bind fun x4 =>
      if x4 = 2 then
        some (2 : Int32)
      else
        (gR z h 12 v0 1).bind fun a6 =>
        (ldI z h a6 (60 + (Int64.toInt32 v1))).bind fun x7 =>
        if x7 ≤ 0 then
          some (0 : Int32)
        else
          some (3 : Int32)
  else none
theorem k_X12_whyDraw {z : Sh} {h : Hp} {v0 : Nat} {v1 : Int64} {w : Int32} (hf : f_X12_whyDraw z h v0 v1 = some w) : z.K v0 = 12 := by
  unfold f_X12_whyDraw at hf
  exact (if_some hf).1
set_option maxHeartbeats 4000000 in
theorem c_X12_whyDraw {l : Launch} {s0 : State} {E : Ev} (G : Gl s0 E) {z : Sh} {h : Hp} {v0 : Nat} {v1 : Int64} {r : Int32} (hf : f_X12_whyDraw z h v0 v1 = some r) : Ct l s0 E yX12_whyDraw cX12_whyDraw 3 (some .int) 2 47 [.ref v0, .long v1] z h h (some (.int r)) := by
  refine Ct.of G (by decide) (Nat.le_of_ble_eq_true rfl) ?_
  intro p e s m below meth c ls B hw hz hc0 hr hlk hl
  have B : Bd p s0 s E m c cX12_whyDraw 3 RX12 := B
  have hx := B.1
  have hb := B.2.1
  have hl : lv_has ls 3 [(0, .ref v0), (1, .long v1)] := hl
  unfold f_X12_whyDraw at hf
  obtain ⟨_, hf⟩ := if_some hf
  refine lv_aload_n hx hb dX12_whyDraw_0 rfl (lv_at hl 0 rfl) ?_
  refine lv_lload_n hx hb dX12_whyDraw_1 rfl (lv_at hl 1 rfl) ?_
  obtain ⟨x1, e, hf⟩ := ob hf
  refine q_callV (As := [.long v1]) (rest := []) (st1 := [.int x1]) (c_X12_isPerson G e) B hw hz hc0 (k_X12_isPerson e) (by decide) (ci := 12) rfl rfl my_X12_isPerson mv_X12_isPerson tw_7_35 ⟨Nat.le_of_ble_eq_true rfl, Nat.le_of_ble_eq_true rfl⟩ ⟨Nat.zero_le _, Nat.zero_le _⟩ rfl hl.1 rfl rfl (Nat.le_of_ble_eq_true rfl) dX12_whyDraw_2 (fun H locs hw => ?_)
  refine lv_if_ne (tgt := 12) hx hb dX12_whyDraw_5 (by decide) (fun c2 => ?_) (fun c2 => ?_)
  · have hf := (if_neg c2).symm.trans hf
    refine lv_aload_n hx hb dX12_whyDraw_12 rfl (lv_at hl 0 rfl) ?_
    obtain ⟨a3, e, hf⟩ := ob hf
    refine q_getR e B hw fd_12_1.1 fd_12_1.2.1 fd_12_1.2.2.1 fd_12_1.2.2.2.1 fd_12_1.2.2.2.2 rfl tw_6_44 dX12_whyDraw_13 ?_
    refine lv_bipush (v := 24) hx hb dX12_whyDraw_16 (by decide) ?_
    refine lv_lload_n hx hb dX12_whyDraw_18 rfl (lv_at hl 1 rfl) ?_
    refine lv_l2i (v := (Int64.toInt32 v1)) hx hb dX12_whyDraw_19 rfl ?_
    refine lv_iadd hx hb dX12_whyDraw_20 ?_
    obtain ⟨x4, e, hf⟩ := ob hf
    refine q_ldI e B hw dX12_whyDraw_21 ?_
    refine lv_iconst (v := 2) hx hb dX12_whyDraw_22 (by decide) ?_
    refine lv_icmp_ne (tgt := 30) hx hb dX12_whyDraw_23 (by decide) (fun c5 => ?_) (fun c5 => ?_)
    · have hf := (if_neg c5).symm.trans hf
      refine lv_aload_n hx hb dX12_whyDraw_30 rfl (lv_at hl 0 rfl) ?_
      obtain ⟨a6, e, hf⟩ := ob hf
      refine q_getR e B hw fd_12_1.1 fd_12_1.2.1 fd_12_1.2.2.1 fd_12_1.2.2.2.1 fd_12_1.2.2.2.2 rfl tw_6_44 dX12_whyDraw_31 ?_
      refine lv_bipush (v := 60) hx hb dX12_whyDraw_34 (by decide) ?_
      refine lv_lload_n hx hb dX12_whyDraw_36 rfl (lv_at hl 1 rfl) ?_
      refine lv_l2i (v := (Int64.toInt32 v1)) hx hb dX12_whyDraw_37 rfl ?_
      refine lv_iadd hx hb dX12_whyDraw_38 ?_
      obtain ⟨x7, e, hf⟩ := ob hf
      refine q_ldI e B hw dX12_whyDraw_39 ?_
      refine lv_if_le (tgt := 47) hx hb dX12_whyDraw_40 (by decide) (fun c8 => ?_) (fun c8 => ?_)
      · have hf := (if_pos c8).symm.trans hf
        refine lv_iconst (v := 0) hx hb dX12_whyDraw_47 (by decide) ?_
        obtain rfl := so hf
        exact q_iret B hw hz hc0 hr hlk dX12_whyDraw_48
      · have hf := (if_neg c8).symm.trans hf
        refine lv_iconst (v := 3) hx hb dX12_whyDraw_43 (by decide) ?_
        refine lv_goto (tgt := 48) hx hb dX12_whyDraw_44 (by decide) ?_
        obtain rfl := so hf
        exact q_iret B hw hz hc0 hr hlk dX12_whyDraw_48
    · have hf := (if_pos c5).symm.trans hf
      refine lv_iconst (v := 2) hx hb dX12_whyDraw_26 (by decide) ?_
      refine lv_goto (tgt := 48) hx hb dX12_whyDraw_27 (by decide) ?_
      obtain rfl := so hf
      exact q_iret B hw hz hc0 hr hlk dX12_whyDraw_48
  · have hf := (if_pos c2).symm.trans hf
    refine lv_iconst (v := 1) hx hb dX12_whyDraw_8 (by decide) ?_
    refine lv_goto (tgt := 48) hx hb dX12_whyDraw_9 (by decide) ?_
    obtain rfl := so hf
    exact q_iret B hw hz hc0 hr hlk dX12_whyDraw_48
/-! SecondLifeModel.whyPledge(JJ)I -/
def f_X12_whyPledge (z : Sh) (h : Hp) (v0 : Nat) (v1 : Int64) (v3 : Int64) : Option (Int32) :=
  if z.K v0 = 12 then
    (f_X12_within z h v3 1 99).bind fun x1 =>
    if x1 = 0 then
      some (1 : Int32)
    else
      (f_X12_whyDraw z h v0 v1).bind fun x3 =>
      if x3 = 0 then
        (gR z h 12 v0 1).bind fun a5 =>
        (ldI z h a5 17).bind fun x6 =>
        if 0 ≤ (lg_cmp (Int32.toInt64 x6) v3) then
          some (0 : Int32)
        else
          some (4 : Int32)
      else
        some x3
  else none
theorem k_X12_whyPledge {z : Sh} {h : Hp} {v0 : Nat} {v1 : Int64} {v3 : Int64} {w : Int32} (hf : f_X12_whyPledge z h v0 v1 v3 = some w) : z.K v0 = 12 := by
  unfold f_X12_whyPledge at hf
  exact (if_some hf).1
set_option maxHeartbeats 4000000 in
theorem c_X12_whyPledge {l : Launch} {s0 : State} {E : Ev} (G : Gl s0 E) {z : Sh} {h : Hp} {v0 : Nat} {v1 : Int64} {v3 : Int64} {r : Int32} (hf : f_X12_whyPledge z h v0 v1 v3 = some r) : Ct l s0 E yX12_whyPledge cX12_whyPledge 6 (some .int) 3 69 [.ref v0, .long v1, .long v3] z h h (some (.int r)) := by
  refine Ct.of G (by decide) (Nat.le_of_ble_eq_true rfl) ?_
  intro p e s m below meth c ls B hw hz hc0 hr hlk hl
  have B : Bd p s0 s E m c cX12_whyPledge 6 RX12 := B
  have hx := B.1
  have hb := B.2.1
  have hl : lv_has ls 6 [(0, .ref v0), (1, .long v1), (3, .long v3)] := hl
  unfold f_X12_whyPledge at hf
  obtain ⟨_, hf⟩ := if_some hf
  refine lv_lload_n hx hb dX12_whyPledge_0 rfl (lv_at hl 2 rfl) ?_
  refine lv_lconst (v := 1) hx hb dX12_whyPledge_1 (by decide) ?_
  refine lv_ldc2 hx hb B.2.2.2.1 (B.w tw_7_147 rfl) dX12_whyPledge_2 ?_
  obtain ⟨x1, e, hf⟩ := ob hf
  refine q_callS (As := [.long v3, .long 1, .long 99]) (rest := []) (st1 := [.int x1]) (c_X12_within G e) B hw hz hc0 my_X12_within mv_X12_within tw_6_162 ⟨Nat.le_of_ble_eq_true rfl, Nat.le_of_ble_eq_true rfl⟩ ⟨Nat.zero_le _, Nat.zero_le _⟩ rfl hl.1 rfl rfl (Nat.le_of_ble_eq_true rfl) dX12_whyPledge_5 (fun H locs hw => ?_)
  refine lv_if_ne (tgt := 13) hx hb dX12_whyPledge_8 (by decide) (fun c2 => ?_) (fun c2 => ?_)
  · have hf := (if_neg c2).symm.trans hf
    refine lv_aload_n hx hb dX12_whyPledge_13 rfl (lv_at hl 0 rfl) ?_
    refine lv_lload_n hx hb dX12_whyPledge_14 rfl (lv_at hl 1 rfl) ?_
    obtain ⟨x3, e, hf⟩ := ob hf
    refine q_callV (As := [.long v1]) (rest := []) (st1 := [.int x3]) (c_X12_whyDraw G e) B hw hz hc0 (k_X12_whyDraw e) (by decide) (ci := 12) rfl rfl my_X12_whyDraw mv_X12_whyDraw tw_7_127 ⟨Nat.le_of_ble_eq_true rfl, Nat.le_of_ble_eq_true rfl⟩ ⟨Nat.zero_le _, Nat.zero_le _⟩ rfl hl.1 rfl rfl (Nat.le_of_ble_eq_true rfl) dX12_whyPledge_15 (fun H locs hw => ?_)
    refine lv_istore (lv' := [(5, .int x3), (0, .ref v0), (1, .long v1), (3, .long v3)]) hx hb dX12_whyPledge_18 hl (by decide) rfl (fun ls hl => ?_)
    refine lv_iload hx hb dX12_whyPledge_20 (lv_at hl 0 rfl) ?_
    refine lv_if_eq (tgt := 30) hx hb dX12_whyPledge_22 (by decide) (fun c4 => ?_) (fun c4 => ?_)
    · have hf := (if_pos c4).symm.trans hf
      refine lv_aload_n hx hb dX12_whyPledge_30 rfl (lv_at hl 1 rfl) ?_
      obtain ⟨a5, e, hf⟩ := ob hf
      refine q_getR e B hw fd_12_1.1 fd_12_1.2.1 fd_12_1.2.2.1 fd_12_1.2.2.2.1 fd_12_1.2.2.2.2 rfl tw_6_44 dX12_whyPledge_31 ?_
      refine lv_bipush (v := 17) hx hb dX12_whyPledge_34 (by decide) ?_
      obtain ⟨x6, e, hf⟩ := ob hf
      refine q_ldI e B hw dX12_whyPledge_36 ?_
      refine lv_i2l (v := (Int32.toInt64 x6)) hx hb dX12_whyPledge_37 rfl ?_
      refine lv_lload_n hx hb dX12_whyPledge_38 rfl (lv_at hl 3 rfl) ?_
      refine W.lcmp hx hb dX12_whyPledge_39 ?_
      refine lv_if_ge (tgt := 47) hx hb dX12_whyPledge_40 (by decide) (fun c7 => ?_) (fun c7 => ?_)
      · have hf := (if_pos c7).symm.trans hf
        refine lv_iconst (v := 0) hx hb dX12_whyPledge_47 (by decide) ?_
        obtain rfl := so hf
        exact q_iret B hw hz hc0 hr hlk dX12_whyPledge_48
      · have hf := (if_neg c7).symm.trans hf
        refine lv_iconst (v := 4) hx hb dX12_whyPledge_43 (by decide) ?_
        refine lv_goto (tgt := 48) hx hb dX12_whyPledge_44 (by decide) ?_
        obtain rfl := so hf
        exact q_iret B hw hz hc0 hr hlk dX12_whyPledge_48
    · have hf := (if_neg c4).symm.trans hf
      refine lv_iload hx hb dX12_whyPledge_25 (lv_at hl 0 rfl) ?_
      refine lv_goto (tgt := 48) hx hb dX12_whyPledge_27 (by decide) ?_
      obtain rfl := so hf
      exact q_iret B hw hz hc0 hr hlk dX12_whyPledge_48
  · have hf := (if_pos c2).symm.trans hf
    refine lv_iconst (v := 1) hx hb dX12_whyPledge_11 (by decide) ?_
    obtain rfl := so hf
    exact q_iret B hw hz hc0 hr hlk dX12_whyPledge_12
/-! SecondLifeModel.whyRedeem(J)I -/
def f_X12_whyRedeem (z : Sh) (h : Hp) (v0 : Nat) (v1 : Int64) : Option (Int32) :=
  if z.K v0 = 12 then
    (f_X12_isPerson z h v0 v1).bind fun x1 =>
    if x1 = 0 then
      some (1 : Int32)
    else
      (gR z h 12 v0 1).bind fun a3 =>
      (ldI z h a3 (60 + (Int64.toInt32 v1))).bind fun x4 =>
      if x4 = 0 then
        some (3 : Int32)
      else
        some (0 : Int32)
  else none
theorem k_X12_whyRedeem {z : Sh} {h : Hp} {v0 : Nat} {v1 : Int64} {w : Int32} (hf : f_X12_whyRedeem z h v0 v1 = some w) : z.K v0 = 12 := by
  unfold f_X12_whyRedeem at hf
  exact (if_some hf).1
set_option maxHeartbeats 4000000 in
theorem c_X12_whyRedeem {l : Launch} {s0 : State} {E : Ev} (G : Gl s0 E) {z : Sh} {h : Hp} {v0 : Nat} {v1 : Int64} {r : Int32} (hf : f_X12_whyRedeem z h v0 v1 = some r) : Ct l s0 E yX12_whyRedeem cX12_whyRedeem 3 (some .int) 2 47 [.ref v0, .long v1] z h h (some (.int r)) := by
  refine Ct.of G (by decide) (Nat.le_of_ble_eq_true rfl) ?_
  intro p e s m below meth c ls B hw hz hc0 hr hlk hl
  have B : Bd p s0 s E m c cX12_whyRedeem 3 RX12 := B
  have hx := B.1
  have hb := B.2.1
  have hl : lv_has ls 3 [(0, .ref v0), (1, .long v1)] := hl
  unfold f_X12_whyRedeem at hf
  obtain ⟨_, hf⟩ := if_some hf
  refine lv_aload_n hx hb dX12_whyRedeem_0 rfl (lv_at hl 0 rfl) ?_
  refine lv_lload_n hx hb dX12_whyRedeem_1 rfl (lv_at hl 1 rfl) ?_
  obtain ⟨x1, e, hf⟩ := ob hf
  refine q_callV (As := [.long v1]) (rest := []) (st1 := [.int x1]) (c_X12_isPerson G e) B hw hz hc0 (k_X12_isPerson e) (by decide) (ci := 12) rfl rfl my_X12_isPerson mv_X12_isPerson tw_7_35 ⟨Nat.le_of_ble_eq_true rfl, Nat.le_of_ble_eq_true rfl⟩ ⟨Nat.zero_le _, Nat.zero_le _⟩ rfl hl.1 rfl rfl (Nat.le_of_ble_eq_true rfl) dX12_whyRedeem_2 (fun H locs hw => ?_)
  refine lv_if_ne (tgt := 12) hx hb dX12_whyRedeem_5 (by decide) (fun c2 => ?_) (fun c2 => ?_)
  · have hf := (if_neg c2).symm.trans hf
    refine lv_aload_n hx hb dX12_whyRedeem_12 rfl (lv_at hl 0 rfl) ?_
    obtain ⟨a3, e, hf⟩ := ob hf
    refine q_getR e B hw fd_12_1.1 fd_12_1.2.1 fd_12_1.2.2.1 fd_12_1.2.2.2.1 fd_12_1.2.2.2.2 rfl tw_6_44 dX12_whyRedeem_13 ?_
    refine lv_bipush (v := 60) hx hb dX12_whyRedeem_16 (by decide) ?_
    refine lv_lload_n hx hb dX12_whyRedeem_18 rfl (lv_at hl 1 rfl) ?_
    refine lv_l2i (v := (Int64.toInt32 v1)) hx hb dX12_whyRedeem_19 rfl ?_
    refine lv_iadd hx hb dX12_whyRedeem_20 ?_
    obtain ⟨x4, e, hf⟩ := ob hf
    refine q_ldI e B hw dX12_whyRedeem_21 ?_
    refine lv_if_ne (tgt := 29) hx hb dX12_whyRedeem_22 (by decide) (fun c5 => ?_) (fun c5 => ?_)
    · have hf := (if_neg c5).symm.trans hf
      refine lv_iconst (v := 0) hx hb dX12_whyRedeem_29 (by decide) ?_
      obtain rfl := so hf
      exact q_iret B hw hz hc0 hr hlk dX12_whyRedeem_30
    · have hf := (if_pos c5).symm.trans hf
      refine lv_iconst (v := 3) hx hb dX12_whyRedeem_25 (by decide) ?_
      refine lv_goto (tgt := 30) hx hb dX12_whyRedeem_26 (by decide) ?_
      obtain rfl := so hf
      exact q_iret B hw hz hc0 hr hlk dX12_whyRedeem_30
  · have hf := (if_pos c2).symm.trans hf
    refine lv_iconst (v := 1) hx hb dX12_whyRedeem_8 (by decide) ?_
    refine lv_goto (tgt := 30) hx hb dX12_whyRedeem_9 (by decide) ?_
    obtain rfl := so hf
    exact q_iret B hw hz hc0 hr hlk dX12_whyRedeem_30
/-! SecondLifeModel.stands(II)V -/
def f_X12_stands (z : Sh) (h : Hp) (v0 : Nat) (v1 : Int32) (v2 : Int32) : Option (Hp) :=
  if z.K v0 = 12 then
    (gR z h 12 v0 1).bind fun a1 =>
    (f_X12_lifeOf z h v2).bind fun x2 =>
    (stI z h a1 (24 + v1) x2).bind fun h3 =>
    (gR z h3 12 v0 1).bind fun a4 =>
    (f_X12_oldOf z h3 v2).bind fun x5 =>
    (stI z h3 a4 (48 + v1) x5).bind fun h6 =>
    (gR z h6 12 v0 1).bind fun a7 =>
    (f_X12_yearOf z h6 v2).bind fun x8 =>
    (stI z h6 a7 (18 + v1) x8).bind fun h9 =>
    (gR z h9 12 v0 1).bind fun a10 =>
    (f_X12_lastOf z h9 v2).bind fun x11 =>
    (stI z h9 a10 (36 + v1) x11).bind fun h12 =>
    (gR z h12 12 v0 1).bind fun a13 =>
    (f_X12_streakOf z h12 v2).bind fun x14 =>
    (stI z h12 a13 (42 + v1) x14).bind fun h15 =>
    some h15
  else none
theorem k_X12_stands {z : Sh} {h : Hp} {v0 : Nat} {v1 : Int32} {v2 : Int32} {w : Hp} (hf : f_X12_stands z h v0 v1 v2 = some w) : z.K v0 = 12 := by
  unfold f_X12_stands at hf
  exact (if_some hf).1
set_option maxHeartbeats 4000000 in
theorem c_X12_stands {l : Launch} {s0 : State} {E : Ev} (G : Gl s0 E) {z : Sh} {h : Hp} {v0 : Nat} {v1 : Int32} {v2 : Int32} {h' : Hp} (hf : f_X12_stands z h v0 v1 v2 = some h') : Ct l s0 E yX12_stands cX12_stands 3 none 1 21 [.ref v0, .int v1, .int v2] z h h' (none) := by
  refine Ct.of G (by decide) (Nat.le_of_ble_eq_true rfl) ?_
  intro p e s m below meth c ls B hw hz hc0 hr hlk hl
  have B : Bd p s0 s E m c cX12_stands 3 RX12 := B
  have hx := B.1
  have hb := B.2.1
  have hl : lv_has ls 3 [(0, .ref v0), (1, .int v1), (2, .int v2)] := hl
  unfold f_X12_stands at hf
  obtain ⟨_, hf⟩ := if_some hf
  refine lv_aload_n hx hb dX12_stands_0 rfl (lv_at hl 0 rfl) ?_
  obtain ⟨a1, e, hf⟩ := ob hf
  refine q_getR e B hw fd_12_1.1 fd_12_1.2.1 fd_12_1.2.2.1 fd_12_1.2.2.2.1 fd_12_1.2.2.2.2 rfl tw_6_44 dX12_stands_1 ?_
  refine lv_bipush (v := 24) hx hb dX12_stands_4 (by decide) ?_
  refine lv_iload_n hx hb dX12_stands_6 rfl (lv_at hl 1 rfl) ?_
  refine lv_iadd hx hb dX12_stands_7 ?_
  refine lv_iload_n hx hb dX12_stands_8 rfl (lv_at hl 2 rfl) ?_
  obtain ⟨x2, e, hf⟩ := ob hf
  refine q_callS (As := [.int v2]) (rest := [.int (24 + v1), .ref a1]) (st1 := [.int x2, .int (24 + v1), .ref a1]) (c_X12_lifeOf G e) B hw hz hc0 my_X12_lifeOf mv_X12_lifeOf tw_7_72 ⟨Nat.le_of_ble_eq_true rfl, Nat.le_of_ble_eq_true rfl⟩ ⟨Nat.zero_le _, Nat.zero_le _⟩ rfl hl.1 rfl rfl (Nat.le_of_ble_eq_true rfl) dX12_stands_9 (fun H locs hw => ?_)
  obtain ⟨h3, e, hf⟩ := ob hf
  refine q_stI e B hw dX12_stands_12 (fun H locs hw => ?_)
  refine lv_aload_n hx hb dX12_stands_13 rfl (lv_at hl 0 rfl) ?_
  obtain ⟨a4, e, hf⟩ := ob hf
  refine q_getR e B hw fd_12_1.1 fd_12_1.2.1 fd_12_1.2.2.1 fd_12_1.2.2.2.1 fd_12_1.2.2.2.2 rfl tw_6_44 dX12_stands_14 ?_
  refine lv_bipush (v := 48) hx hb dX12_stands_17 (by decide) ?_
  refine lv_iload_n hx hb dX12_stands_19 rfl (lv_at hl 1 rfl) ?_
  refine lv_iadd hx hb dX12_stands_20 ?_
  refine lv_iload_n hx hb dX12_stands_21 rfl (lv_at hl 2 rfl) ?_
  obtain ⟨x5, e, hf⟩ := ob hf
  refine q_callS (As := [.int v2]) (rest := [.int (48 + v1), .ref a4]) (st1 := [.int x5, .int (48 + v1), .ref a4]) (c_X12_oldOf G e) B hw hz hc0 my_X12_oldOf mv_X12_oldOf tw_7_75 ⟨Nat.le_of_ble_eq_true rfl, Nat.le_of_ble_eq_true rfl⟩ ⟨Nat.zero_le _, Nat.zero_le _⟩ rfl hl.1 rfl rfl (Nat.le_of_ble_eq_true rfl) dX12_stands_22 (fun H locs hw => ?_)
  obtain ⟨h6, e, hf⟩ := ob hf
  refine q_stI e B hw dX12_stands_25 (fun H locs hw => ?_)
  refine lv_aload_n hx hb dX12_stands_26 rfl (lv_at hl 0 rfl) ?_
  obtain ⟨a7, e, hf⟩ := ob hf
  refine q_getR e B hw fd_12_1.1 fd_12_1.2.1 fd_12_1.2.2.1 fd_12_1.2.2.2.1 fd_12_1.2.2.2.2 rfl tw_6_44 dX12_stands_27 ?_
  refine lv_bipush (v := 18) hx hb dX12_stands_30 (by decide) ?_
  refine lv_iload_n hx hb dX12_stands_32 rfl (lv_at hl 1 rfl) ?_
  refine lv_iadd hx hb dX12_stands_33 ?_
  refine lv_iload_n hx hb dX12_stands_34 rfl (lv_at hl 2 rfl) ?_
  obtain ⟨x8, e, hf⟩ := ob hf
  refine q_callS (As := [.int v2]) (rest := [.int (18 + v1), .ref a7]) (st1 := [.int x8, .int (18 + v1), .ref a7]) (c_X12_yearOf G e) B hw hz hc0 my_X12_yearOf mv_X12_yearOf tw_7_59 ⟨Nat.le_of_ble_eq_true rfl, Nat.le_of_ble_eq_true rfl⟩ ⟨Nat.zero_le _, Nat.zero_le _⟩ rfl hl.1 rfl rfl (Nat.le_of_ble_eq_true rfl) dX12_stands_35 (fun H locs hw => ?_)
  obtain ⟨h9, e, hf⟩ := ob hf
  refine q_stI e B hw dX12_stands_38 (fun H locs hw => ?_)
  refine lv_aload_n hx hb dX12_stands_39 rfl (lv_at hl 0 rfl) ?_
  obtain ⟨a10, e, hf⟩ := ob hf
  refine q_getR e B hw fd_12_1.1 fd_12_1.2.1 fd_12_1.2.2.1 fd_12_1.2.2.2.1 fd_12_1.2.2.2.2 rfl tw_6_44 dX12_stands_40 ?_
  refine lv_bipush (v := 36) hx hb dX12_stands_43 (by decide) ?_
  refine lv_iload_n hx hb dX12_stands_45 rfl (lv_at hl 1 rfl) ?_
  refine lv_iadd hx hb dX12_stands_46 ?_
  refine lv_iload_n hx hb dX12_stands_47 rfl (lv_at hl 2 rfl) ?_
  obtain ⟨x11, e, hf⟩ := ob hf
  refine q_callS (As := [.int v2]) (rest := [.int (36 + v1), .ref a10]) (st1 := [.int x11, .int (36 + v1), .ref a10]) (c_X12_lastOf G e) B hw hz hc0 my_X12_lastOf mv_X12_lastOf tw_7_66 ⟨Nat.le_of_ble_eq_true rfl, Nat.le_of_ble_eq_true rfl⟩ ⟨Nat.zero_le _, Nat.zero_le _⟩ rfl hl.1 rfl rfl (Nat.le_of_ble_eq_true rfl) dX12_stands_48 (fun H locs hw => ?_)
  obtain ⟨h12, e, hf⟩ := ob hf
  refine q_stI e B hw dX12_stands_51 (fun H locs hw => ?_)
  refine lv_aload_n hx hb dX12_stands_52 rfl (lv_at hl 0 rfl) ?_
  obtain ⟨a13, e, hf⟩ := ob hf
  refine q_getR e B hw fd_12_1.1 fd_12_1.2.1 fd_12_1.2.2.1 fd_12_1.2.2.2.1 fd_12_1.2.2.2.2 rfl tw_6_44 dX12_stands_53 ?_
  refine lv_bipush (v := 42) hx hb dX12_stands_56 (by decide) ?_
  refine lv_iload_n hx hb dX12_stands_58 rfl (lv_at hl 1 rfl) ?_
  refine lv_iadd hx hb dX12_stands_59 ?_
  refine lv_iload_n hx hb dX12_stands_60 rfl (lv_at hl 2 rfl) ?_
  obtain ⟨x14, e, hf⟩ := ob hf
  refine q_callS (As := [.int v2]) (rest := [.int (42 + v1), .ref a13]) (st1 := [.int x14, .int (42 + v1), .ref a13]) (c_X12_streakOf G e) B hw hz hc0 my_X12_streakOf mv_X12_streakOf tw_7_69 ⟨Nat.le_of_ble_eq_true rfl, Nat.le_of_ble_eq_true rfl⟩ ⟨Nat.zero_le _, Nat.zero_le _⟩ rfl hl.1 rfl rfl (Nat.le_of_ble_eq_true rfl) dX12_stands_61 (fun H locs hw => ?_)
  obtain ⟨h15, e, hf⟩ := ob hf
  refine q_stI e B hw dX12_stands_64 (fun H locs hw => ?_)
  obtain rfl := so hf
  exact q_vret B hw hz hc0 hr hlk dX12_stands_65
/-! SecondLifeModel.lives(II)I -/
def f_X12_lives (n : Nat) (z : Sh) (h : Hp) (v0 : Nat) (v1 : Int32) (v2 : Int32) : Option (Int32 × Hp) :=
  if z.K v0 = 12 then
    (f_X12_standNow z h v0 v1).bind fun x1 =>
    (gR z h 12 v0 1).bind fun a2 =>
    (ldI z h a2 (54 + v1)).bind fun x3 =>
    (f_X12_worthOf n z h v0 x3 x1 v2).bind fun (x4, h5) =>
    (gR z h5 12 v0 1).bind fun a6 =>
    (ldI z h5 a6 (30 + v1)).bind fun x7 =>
    (stI z h5 a6 (30 + v1) (x7 + x4)).bind fun h8 =>
    (f_X12_livedTo z h8 x1 v2).bind fun x9 =>
    (f_X12_stands z h8 v0 v1 x9).bind fun h10 =>
    some (x4, h10)
  else none
theorem k_X12_lives {n : Nat} {z : Sh} {h : Hp} {v0 : Nat} {v1 : Int32} {v2 : Int32} {w : Int32 × Hp} (hf : f_X12_lives n z h v0 v1 v2 = some w) : z.K v0 = 12 := by
  unfold f_X12_lives at hf
  exact (if_some hf).1
set_option maxHeartbeats 4000000 in
theorem c_X12_lives {l : Launch} {s0 : State} {E : Ev} (G : Gl s0 E) {n : Nat} {z : Sh} {h : Hp} {v0 : Nat} {v1 : Int32} {v2 : Int32} {r : Int32} {h' : Hp} (hf : f_X12_lives n z h v0 v1 v2 = some (r, h')) : Ct l s0 E yX12_lives cX12_lives 5 (some .int) 3 72 [.ref v0, .int v1, .int v2] z h h' (some (.int r)) := by
  refine Ct.of G (by decide) (Nat.le_of_ble_eq_true rfl) ?_
  intro p e s m below meth c ls B hw hz hc0 hr hlk hl
  have B : Bd p s0 s E m c cX12_lives 5 RX12 := B
  have hx := B.1
  have hb := B.2.1
  have hl : lv_has ls 5 [(0, .ref v0), (1, .int v1), (2, .int v2)] := hl
  unfold f_X12_lives at hf
  obtain ⟨_, hf⟩ := if_some hf
  refine lv_aload_n hx hb dX12_lives_0 rfl (lv_at hl 0 rfl) ?_
  refine lv_iload_n hx hb dX12_lives_1 rfl (lv_at hl 1 rfl) ?_
  obtain ⟨x1, e, hf⟩ := ob hf
  refine q_callV (As := [.int v1]) (rest := []) (st1 := [.int x1]) (c_X12_standNow G e) B hw hz hc0 (k_X12_standNow e) (by decide) (ci := 12) rfl rfl my_X12_standNow mv_X12_standNow tw_7_48 ⟨Nat.le_of_ble_eq_true rfl, Nat.le_of_ble_eq_true rfl⟩ ⟨Nat.zero_le _, Nat.zero_le _⟩ rfl hl.1 rfl rfl (Nat.le_of_ble_eq_true rfl) dX12_lives_2 (fun H locs hw => ?_)
  refine lv_istore_n (lv' := [(3, .int x1), (0, .ref v0), (1, .int v1), (2, .int v2)]) hx hb dX12_lives_5 rfl hl (by decide) rfl (fun ls hl => ?_)
  refine lv_aload_n hx hb dX12_lives_6 rfl (lv_at hl 1 rfl) ?_
  refine lv_aload_n hx hb dX12_lives_7 rfl (lv_at hl 1 rfl) ?_
  obtain ⟨a2, e, hf⟩ := ob hf
  refine q_getR e B hw fd_12_1.1 fd_12_1.2.1 fd_12_1.2.2.1 fd_12_1.2.2.2.1 fd_12_1.2.2.2.2 rfl tw_6_44 dX12_lives_8 ?_
  refine lv_bipush (v := 54) hx hb dX12_lives_11 (by decide) ?_
  refine lv_iload_n hx hb dX12_lives_13 rfl (lv_at hl 2 rfl) ?_
  refine lv_iadd hx hb dX12_lives_14 ?_
  obtain ⟨x3, e, hf⟩ := ob hf
  refine q_ldI e B hw dX12_lives_15 ?_
  refine lv_iload_n hx hb dX12_lives_16 rfl (lv_at hl 0 rfl) ?_
  refine lv_iload_n hx hb dX12_lives_17 rfl (lv_at hl 3 rfl) ?_
  obtain ⟨⟨x4, h5⟩, e, hf⟩ := ob hf
  refine q_callV (As := [.int x3, .int x1, .int v2]) (rest := []) (st1 := [.int x4]) (c_X12_worthOf G e) B hw hz hc0 (k_X12_worthOf e) (by decide) (ci := 12) rfl rfl my_X12_worthOf mv_X12_worthOf tw_7_62 ⟨Nat.le_of_ble_eq_true rfl, Nat.le_of_ble_eq_true rfl⟩ ⟨Nat.zero_le _, Nat.zero_le _⟩ rfl hl.1 rfl rfl (Nat.le_of_ble_eq_true rfl) dX12_lives_18 (fun H locs hw => ?_)
  refine lv_istore (lv' := [(4, .int x4), (3, .int x1), (0, .ref v0), (1, .int v1), (2, .int v2)]) hx hb dX12_lives_21 hl (by decide) rfl (fun ls hl => ?_)
  refine lv_aload_n hx hb dX12_lives_23 rfl (lv_at hl 2 rfl) ?_
  obtain ⟨a6, e, hf⟩ := ob hf
  refine q_getR e B hw fd_12_1.1 fd_12_1.2.1 fd_12_1.2.2.1 fd_12_1.2.2.2.1 fd_12_1.2.2.2.2 rfl tw_6_44 dX12_lives_24 ?_
  refine lv_bipush (v := 30) hx hb dX12_lives_27 (by decide) ?_
  refine lv_iload_n hx hb dX12_lives_29 rfl (lv_at hl 3 rfl) ?_
  refine lv_iadd hx hb dX12_lives_30 ?_
  refine lv_dup2_11 hx hb dX12_lives_31 rfl rfl ?_
  obtain ⟨x7, e, hf⟩ := ob hf
  refine q_ldI e B hw dX12_lives_32 ?_
  refine lv_iload hx hb dX12_lives_33 (lv_at hl 0 rfl) ?_
  refine lv_iadd hx hb dX12_lives_35 ?_
  obtain ⟨h8, e, hf⟩ := ob hf
  refine q_stI e B hw dX12_lives_36 (fun H locs hw => ?_)
  refine lv_aload_n hx hb dX12_lives_37 rfl (lv_at hl 2 rfl) ?_
  refine lv_iload_n hx hb dX12_lives_38 rfl (lv_at hl 3 rfl) ?_
  refine lv_iload_n hx hb dX12_lives_39 rfl (lv_at hl 1 rfl) ?_
  refine lv_iload_n hx hb dX12_lives_40 rfl (lv_at hl 4 rfl) ?_
  obtain ⟨x9, e, hf⟩ := ob hf
  refine q_callS (As := [.int x1, .int v2]) (rest := [.int v1, .ref v0]) (st1 := [.int x9, .int v1, .ref v0]) (c_X12_livedTo G e) B hw hz hc0 my_X12_livedTo mv_X12_livedTo tw_7_112 ⟨Nat.le_of_ble_eq_true rfl, Nat.le_of_ble_eq_true rfl⟩ ⟨Nat.zero_le _, Nat.zero_le _⟩ rfl hl.1 rfl rfl (Nat.le_of_ble_eq_true rfl) dX12_lives_41 (fun H locs hw => ?_)
  obtain ⟨h10, e, hf⟩ := ob hf
  refine q_callV (As := [.int v1, .int x9]) (rest := []) (st1 := []) (c_X12_stands G e) B hw hz hc0 (k_X12_stands e) (by decide) (ci := 12) rfl rfl my_X12_stands mv_X12_stands tw_7_115 ⟨Nat.le_of_ble_eq_true rfl, Nat.le_of_ble_eq_true rfl⟩ ⟨Nat.zero_le _, Nat.zero_le _⟩ rfl hl.1 rfl rfl (Nat.le_of_ble_eq_true rfl) dX12_lives_44 (fun H locs hw => ?_)
  refine lv_iload hx hb dX12_lives_47 (lv_at hl 0 rfl) ?_
  obtain ⟨rfl, rfl⟩ := so2 hf
  exact q_iret B hw hz hc0 hr hlk dX12_lives_49
/-! SecondLifeModel.drawsIt(I)V -/
def f_X12_drawsIt (n : Nat) (z : Sh) (h : Hp) (v0 : Nat) (v1 : Int32) : Option (Hp) :=
  if z.K v0 = 12 then
    (gR z h 12 v0 1).bind fun a1 =>
    (ldI z h a1 (54 + v1)).bind fun x2 =>
    (f_X12_standNow z h v0 v1).bind fun x3 =>
    (f_X12_drawnTo n z h v0 x2 x3).bind fun (x4, h5) =>
    (f_X12_stands z h5 v0 v1 x4).bind fun h6 =>
    some h6
  else none
theorem k_X12_drawsIt {n : Nat} {z : Sh} {h : Hp} {v0 : Nat} {v1 : Int32} {w : Hp} (hf : f_X12_drawsIt n z h v0 v1 = some w) : z.K v0 = 12 := by
  unfold f_X12_drawsIt at hf
  exact (if_some hf).1
set_option maxHeartbeats 4000000 in
theorem c_X12_drawsIt {l : Launch} {s0 : State} {E : Ev} (G : Gl s0 E) {n : Nat} {z : Sh} {h : Hp} {v0 : Nat} {v1 : Int32} {h' : Hp} (hf : f_X12_drawsIt n z h v0 v1 = some h') : Ct l s0 E yX12_drawsIt cX12_drawsIt 2 none 4 93 [.ref v0, .int v1] z h h' (none) := by
  refine Ct.of G (by decide) (Nat.le_of_ble_eq_true rfl) ?_
  intro p e s m below meth c ls B hw hz hc0 hr hlk hl
  have B : Bd p s0 s E m c cX12_drawsIt 2 RX12 := B
  have hx := B.1
  have hb := B.2.1
  have hl : lv_has ls 2 [(0, .ref v0), (1, .int v1)] := hl
  unfold f_X12_drawsIt at hf
  obtain ⟨_, hf⟩ := if_some hf
  refine lv_aload_n hx hb dX12_drawsIt_0 rfl (lv_at hl 0 rfl) ?_
  refine lv_iload_n hx hb dX12_drawsIt_1 rfl (lv_at hl 1 rfl) ?_
  refine lv_aload_n hx hb dX12_drawsIt_2 rfl (lv_at hl 0 rfl) ?_
  refine lv_aload_n hx hb dX12_drawsIt_3 rfl (lv_at hl 0 rfl) ?_
  obtain ⟨a1, e, hf⟩ := ob hf
  refine q_getR e B hw fd_12_1.1 fd_12_1.2.1 fd_12_1.2.2.1 fd_12_1.2.2.2.1 fd_12_1.2.2.2.2 rfl tw_6_44 dX12_drawsIt_4 ?_
  refine lv_bipush (v := 54) hx hb dX12_drawsIt_7 (by decide) ?_
  refine lv_iload_n hx hb dX12_drawsIt_9 rfl (lv_at hl 1 rfl) ?_
  refine lv_iadd hx hb dX12_drawsIt_10 ?_
  obtain ⟨x2, e, hf⟩ := ob hf
  refine q_ldI e B hw dX12_drawsIt_11 ?_
  refine lv_aload_n hx hb dX12_drawsIt_12 rfl (lv_at hl 0 rfl) ?_
  refine lv_iload_n hx hb dX12_drawsIt_13 rfl (lv_at hl 1 rfl) ?_
  obtain ⟨x3, e, hf⟩ := ob hf
  refine q_callV (As := [.int v1]) (rest := [.int x2, .ref v0, .int v1, .ref v0]) (st1 := [.int x3, .int x2, .ref v0, .int v1, .ref v0]) (c_X12_standNow G e) B hw hz hc0 (k_X12_standNow e) (by decide) (ci := 12) rfl rfl my_X12_standNow mv_X12_standNow tw_7_48 ⟨Nat.le_of_ble_eq_true rfl, Nat.le_of_ble_eq_true rfl⟩ ⟨Nat.zero_le _, Nat.zero_le _⟩ rfl hl.1 rfl rfl (Nat.le_of_ble_eq_true rfl) dX12_drawsIt_14 (fun H locs hw => ?_)
  obtain ⟨⟨x4, h5⟩, e, hf⟩ := ob hf
  refine q_callV (As := [.int x2, .int x3]) (rest := [.int v1, .ref v0]) (st1 := [.int x4, .int v1, .ref v0]) (c_X12_drawnTo G e) B hw hz hc0 (k_X12_drawnTo e) (by decide) (ci := 12) rfl rfl my_X12_drawnTo mv_X12_drawnTo tw_7_135 ⟨Nat.le_of_ble_eq_true rfl, Nat.le_of_ble_eq_true rfl⟩ ⟨Nat.zero_le _, Nat.zero_le _⟩ rfl hl.1 rfl rfl (Nat.le_of_ble_eq_true rfl) dX12_drawsIt_17 (fun H locs hw => ?_)
  obtain ⟨h6, e, hf⟩ := ob hf
  refine q_callV (As := [.int v1, .int x4]) (rest := []) (st1 := []) (c_X12_stands G e) B hw hz hc0 (k_X12_stands e) (by decide) (ci := 12) rfl rfl my_X12_stands mv_X12_stands tw_7_115 ⟨Nat.le_of_ble_eq_true rfl, Nat.le_of_ble_eq_true rfl⟩ ⟨Nat.zero_le _, Nat.zero_le _⟩ rfl hl.1 rfl rfl (Nat.le_of_ble_eq_true rfl) dX12_drawsIt_20 (fun H locs hw => ?_)
  obtain rfl := so hf
  exact q_vret B hw hz hc0 hr hlk dX12_drawsIt_23
/-! SecondLifeModel.goes(II)V -/
def f_X12_goes (z : Sh) (h : Hp) (v0 : Nat) (v1 : Int32) (v2 : Int32) : Option (Hp) :=
  if z.K v0 = 12 then
    (gR z h 12 v0 1).bind fun a1 =>
    (ldI z h a1 (60 + v1)).bind fun x2 =>
    (stI z h a1 (60 + v1) (x2 + v2)).bind fun h3 =>
    (gR z h3 12 v0 1).bind fun a4 =>
    (ldI z h3 a4 (30 + v1)).bind fun x5 =>
    (stI z h3 a4 (30 + v1) (x5 + v2)).bind fun h6 =>
    (gR z h6 12 v0 1).bind fun a7 =>
    (ldI z h6 a7 17).bind fun x8 =>
    (stI z h6 a7 17 (x8 - v2)).bind fun h9 =>
    some h9
  else none
theorem k_X12_goes {z : Sh} {h : Hp} {v0 : Nat} {v1 : Int32} {v2 : Int32} {w : Hp} (hf : f_X12_goes z h v0 v1 v2 = some w) : z.K v0 = 12 := by
  unfold f_X12_goes at hf
  exact (if_some hf).1
set_option maxHeartbeats 4000000 in
theorem c_X12_goes {l : Launch} {s0 : State} {E : Ev} (G : Gl s0 E) {z : Sh} {h : Hp} {v0 : Nat} {v1 : Int32} {v2 : Int32} {h' : Hp} (hf : f_X12_goes z h v0 v1 v2 = some h') : Ct l s0 E yX12_goes cX12_goes 3 none 0 0 [.ref v0, .int v1, .int v2] z h h' (none) := by
  refine Ct.of G (by decide) (Nat.le_of_ble_eq_true rfl) ?_
  intro p e s m below meth c ls B hw hz hc0 hr hlk hl
  have B : Bd p s0 s E m c cX12_goes 3 RX12 := B
  have hx := B.1
  have hb := B.2.1
  have hl : lv_has ls 3 [(0, .ref v0), (1, .int v1), (2, .int v2)] := hl
  unfold f_X12_goes at hf
  obtain ⟨_, hf⟩ := if_some hf
  refine lv_aload_n hx hb dX12_goes_0 rfl (lv_at hl 0 rfl) ?_
  obtain ⟨a1, e, hf⟩ := ob hf
  refine q_getR e B hw fd_12_1.1 fd_12_1.2.1 fd_12_1.2.2.1 fd_12_1.2.2.2.1 fd_12_1.2.2.2.2 rfl tw_6_44 dX12_goes_1 ?_
  refine lv_bipush (v := 60) hx hb dX12_goes_4 (by decide) ?_
  refine lv_iload_n hx hb dX12_goes_6 rfl (lv_at hl 1 rfl) ?_
  refine lv_iadd hx hb dX12_goes_7 ?_
  refine lv_dup2_11 hx hb dX12_goes_8 rfl rfl ?_
  obtain ⟨x2, e, hf⟩ := ob hf
  refine q_ldI e B hw dX12_goes_9 ?_
  refine lv_iload_n hx hb dX12_goes_10 rfl (lv_at hl 2 rfl) ?_
  refine lv_iadd hx hb dX12_goes_11 ?_
  obtain ⟨h3, e, hf⟩ := ob hf
  refine q_stI e B hw dX12_goes_12 (fun H locs hw => ?_)
  refine lv_aload_n hx hb dX12_goes_13 rfl (lv_at hl 0 rfl) ?_
  obtain ⟨a4, e, hf⟩ := ob hf
  refine q_getR e B hw fd_12_1.1 fd_12_1.2.1 fd_12_1.2.2.1 fd_12_1.2.2.2.1 fd_12_1.2.2.2.2 rfl tw_6_44 dX12_goes_14 ?_
  refine lv_bipush (v := 30) hx hb dX12_goes_17 (by decide) ?_
  refine lv_iload_n hx hb dX12_goes_19 rfl (lv_at hl 1 rfl) ?_
  refine lv_iadd hx hb dX12_goes_20 ?_
  refine lv_dup2_11 hx hb dX12_goes_21 rfl rfl ?_
  obtain ⟨x5, e, hf⟩ := ob hf
  refine q_ldI e B hw dX12_goes_22 ?_
  refine lv_iload_n hx hb dX12_goes_23 rfl (lv_at hl 2 rfl) ?_
  refine lv_iadd hx hb dX12_goes_24 ?_
  obtain ⟨h6, e, hf⟩ := ob hf
  refine q_stI e B hw dX12_goes_25 (fun H locs hw => ?_)
  refine lv_aload_n hx hb dX12_goes_26 rfl (lv_at hl 0 rfl) ?_
  obtain ⟨a7, e, hf⟩ := ob hf
  refine q_getR e B hw fd_12_1.1 fd_12_1.2.1 fd_12_1.2.2.1 fd_12_1.2.2.2.1 fd_12_1.2.2.2.2 rfl tw_6_44 dX12_goes_27 ?_
  refine lv_bipush (v := 17) hx hb dX12_goes_30 (by decide) ?_
  refine lv_dup2_11 hx hb dX12_goes_32 rfl rfl ?_
  obtain ⟨x8, e, hf⟩ := ob hf
  refine q_ldI e B hw dX12_goes_33 ?_
  refine lv_iload_n hx hb dX12_goes_34 rfl (lv_at hl 2 rfl) ?_
  refine lv_isub hx hb dX12_goes_35 ?_
  obtain ⟨h9, e, hf⟩ := ob hf
  refine q_stI e B hw dX12_goes_36 (fun H locs hw => ?_)
  obtain rfl := so hf
  exact q_vret B hw hz hc0 hr hlk dX12_goes_37
