/-! SecondLifeModel.mostOften(III)I -/
def f_X12_mostOften_104 (n : Nat) (z : Sh) (k30 : Hp → Nat → Int32 → Int32 → Int32 → Int32 → Int32 → Option (Int32 × Hp)) (h : Hp) (v0 : Nat) (v1 : Int32) (v2 : Int32) (v3 : Int32) (v4 : Int32) (v5 : Int32) : Option (Int32 × Hp) :=
  (some (v5 + 1)).bind fun x1 =>
  k30 h v0 v1 v2 v3 v4 x1
def f_X12_mostOften_102 (n : Nat) (z : Sh) (k30 : Hp → Nat → Int32 → Int32 → Int32 → Int32 → Int32 → Option (Int32 × Hp)) (h : Hp) (v0 : Nat) (v1 : Int32) (v2 : Int32) (v3 : Int32) (v5 : Int32) (u0 : Int32) : Option (Int32 × Hp) :=
  f_X12_mostOften_104 n z k30 h v0 v1 v2 v3 u0 v5
def f_X12_mostOften_30 (n : Nat) (z : Sh) : Nat → Hp → Nat → Int32 → Int32 → Int32 → Int32 → Int32 → Option (Int32 × Hp)
  | 0, _, _, _, _, _, _, _ => none
  | i + 1, h, v0, v1, v2, v3, v4, v5 =>
    if 10 ≤ v5 then
      some (v4, h)
    else
      (f_X12_isIn z h (Int32.toInt64 v3) v5).bind fun x2 =>
      if x2 = 0 then
        f_X12_mostOften_104 n z (f_X12_mostOften_30 n z i) h v0 v1 v2 v3 v4 v5
      else
        (f_X12_standNow z h v0 v1).bind fun x4 =>
        (f_X12_worthOf n z h v0 v5 x4 v2).bind fun (x5, h6) =>
        (some (9 + x5)).bind fun x7 =>
        (gR z h6 12 v0 31).bind fun a8 =>
        (ldI z h6 a8 x7).bind fun x9 =>
        (stI z h6 a8 x7 (x9 + 1)).bind fun h10 =>
        (gR z h10 12 v0 31).bind fun a11 =>
        (ldI z h10 a11 x7).bind fun x12 =>
        if x12 ≤ v4 then
          f_X12_mostOften_102 n z (f_X12_mostOften_30 n z i) h10 v0 v1 v2 v3 v5 v4
        else
          (gR z h10 12 v0 31).bind fun a14 =>
          (ldI z h10 a14 x7).bind fun x15 =>
          f_X12_mostOften_102 n z (f_X12_mostOften_30 n z i) h10 v0 v1 v2 v3 v5 x15
def f_X12_mostOften_6 (n : Nat) (z : Sh) : Nat → Hp → Nat → Int32 → Int32 → Int32 → Int32 → Int32 → Option (Int32 × Hp)
  | 0, _, _, _, _, _, _, _ => none
  | i + 1, h, v0, v1, v2, v3, v4, v5 =>
    if 19 ≤ v5 then
      f_X12_mostOften_30 n z n h v0 v1 v2 v3 v4 0
    else
      (gR z h 12 v0 31).bind fun a2 =>
      (stI z h a2 v5 0).bind fun h3 =>
      (some (v5 + 1)).bind fun x4 =>
      (f_X12_mostOften_6 n z i) h3 v0 v1 v2 v3 v4 x4
def f_X12_mostOften (n : Nat) (z : Sh) (h : Hp) (v0 : Nat) (v1 : Int32) (v2 : Int32) (v3 : Int32) : Option (Int32 × Hp) :=
  if z.K v0 = 12 then
    f_X12_mostOften_6 n z n h v0 v1 v2 v3 0 0
  else none
theorem k_X12_mostOften {n : Nat} {z : Sh} {h : Hp} {v0 : Nat} {v1 : Int32} {v2 : Int32} {v3 : Int32} {w : Int32 × Hp} (hf : f_X12_mostOften n z h v0 v1 v2 v3 = some w) : z.K v0 = 12 := by
  unfold f_X12_mostOften at hf
  exact (if_some hf).1
set_option maxHeartbeats 4000000 in
theorem w_X12_mostOften_104 {p : Program} {l : Launch} {e : Env} {s : State} {m : MethodId} {args : Array Value} {below : List Frame} {meth : Method} {c : Code} {s0 : State} {E : Ev} {z : Sh} {n : Nat} {k30 : Hp → Nat → Int32 → Int32 → Int32 → Int32 → Int32 → Option (Int32 × Hp)} {r : Int32} {h' : Hp} (G : Gl s0 E) (B : Bd p s0 s E m c cX12_mostOften 7 RX12) (hz : s0.heap.size ≤ z.sz) (hc0 : s.heap.size + 0 = z.sz) (hr : meth.sig.returnType = (some .int)) (hlk : meth.locks = false) (hk30 : ∀ (h : Hp) (v0 : Nat) (v1 : Int32) (v2 : Int32) (v3 : Int32) (v4 : Int32) (v5 : Int32) (H : Heap) (locs : List Loc) (ls : Array Slot), Pw s0 s E z h H locs → lv_has ls 7 [(0, .ref v0), (1, .int v1), (2, .int v2), (3, .int v3), (4, .int v4), (5, .int v5)] → k30 h v0 v1 v2 v3 v4 v5 = some (r, h') → W p l e (rmO 3 72) s m args below meth c H locs 0 0 (Zt below s0 E z h' (some (.int r)) args s 0 0) (F0 m 30 ls [])) : ∀ (h : Hp) (v0 : Nat) (v1 : Int32) (v2 : Int32) (v3 : Int32) (v4 : Int32) (v5 : Int32) (H : Heap) (locs : List Loc) (ls : Array Slot), Pw s0 s E z h H locs → lv_has ls 7 [(0, .ref v0), (1, .int v1), (2, .int v2), (3, .int v3), (4, .int v4), (5, .int v5)] → f_X12_mostOften_104 n z k30 h v0 v1 v2 v3 v4 v5 = some (r, h') → W p l e (rmO 3 72) s m args below meth c H locs 0 0 (Zt below s0 E z h' (some (.int r)) args s 0 0) (F0 m 104 ls []) := by
  have hx := B.1
  have hb := B.2.1
  intro h v0 v1 v2 v3 v4 v5 H locs ls hw hl hf
  unfold f_X12_mostOften_104 at hf
  obtain ⟨x1, e, hf⟩ := ob hf
  refine lv_iinc (v := x1) (lv' := [(5, .int x1), (0, .ref v0), (1, .int v1), (2, .int v2), (3, .int v3), (4, .int v4)]) hx hb dX12_mostOften_104 hl (k := 5) rfl (Option.some.inj e) (by decide) rfl (fun ls hl => ?_)
  refine lv_goto (tgt := 30) hx hb dX12_mostOften_107 (by decide) ?_
  exact hk30 h v0 v1 v2 v3 v4 x1 _ _ _ hw (lv_sub hl [1, 2, 3, 4, 5, 0] rfl) hf
set_option maxHeartbeats 4000000 in
theorem w_X12_mostOften_102 {p : Program} {l : Launch} {e : Env} {s : State} {m : MethodId} {args : Array Value} {below : List Frame} {meth : Method} {c : Code} {s0 : State} {E : Ev} {z : Sh} {n : Nat} {k30 : Hp → Nat → Int32 → Int32 → Int32 → Int32 → Int32 → Option (Int32 × Hp)} {r : Int32} {h' : Hp} (G : Gl s0 E) (B : Bd p s0 s E m c cX12_mostOften 7 RX12) (hz : s0.heap.size ≤ z.sz) (hc0 : s.heap.size + 0 = z.sz) (hr : meth.sig.returnType = (some .int)) (hlk : meth.locks = false) (hk30 : ∀ (h : Hp) (v0 : Nat) (v1 : Int32) (v2 : Int32) (v3 : Int32) (v4 : Int32) (v5 : Int32) (H : Heap) (locs : List Loc) (ls : Array Slot), Pw s0 s E z h H locs → lv_has ls 7 [(0, .ref v0), (1, .int v1), (2, .int v2), (3, .int v3), (4, .int v4), (5, .int v5)] → k30 h v0 v1 v2 v3 v4 v5 = some (r, h') → W p l e (rmO 3 72) s m args below meth c H locs 0 0 (Zt below s0 E z h' (some (.int r)) args s 0 0) (F0 m 30 ls [])) : ∀ (h : Hp) (v0 : Nat) (v1 : Int32) (v2 : Int32) (v3 : Int32) (v5 : Int32) (u0 : Int32) (H : Heap) (locs : List Loc) (ls : Array Slot), Pw s0 s E z h H locs → lv_has ls 7 [(0, .ref v0), (1, .int v1), (2, .int v2), (3, .int v3), (5, .int v5)] → f_X12_mostOften_102 n z k30 h v0 v1 v2 v3 v5 u0 = some (r, h') → W p l e (rmO 3 72) s m args below meth c H locs 0 0 (Zt below s0 E z h' (some (.int r)) args s 0 0) (F0 m 102 ls [.int u0]) := by
  have hx := B.1
  have hb := B.2.1
  intro h v0 v1 v2 v3 v5 u0 H locs ls hw hl hf
  unfold f_X12_mostOften_102 at hf
  refine lv_istore (lv' := [(4, .int u0), (0, .ref v0), (1, .int v1), (2, .int v2), (3, .int v3), (5, .int v5)]) hx hb dX12_mostOften_102 hl (by decide) rfl (fun ls hl => ?_)
  exact w_X12_mostOften_104 G B hz hc0 hr hlk hk30 h v0 v1 v2 v3 u0 v5 _ _ _ hw (lv_sub hl [1, 2, 3, 4, 0, 5] rfl) hf
set_option maxHeartbeats 4000000 in
theorem w_X12_mostOften_30 {p : Program} {l : Launch} {e : Env} {s : State} {m : MethodId} {args : Array Value} {below : List Frame} {meth : Method} {c : Code} {s0 : State} {E : Ev} {z : Sh} {n : Nat} {r : Int32} {h' : Hp} (G : Gl s0 E) (B : Bd p s0 s E m c cX12_mostOften 7 RX12) (hz : s0.heap.size ≤ z.sz) (hc0 : s.heap.size + 0 = z.sz) (hr : meth.sig.returnType = (some .int)) (hlk : meth.locks = false) : ∀ (i : Nat), ∀ (h : Hp) (v0 : Nat) (v1 : Int32) (v2 : Int32) (v3 : Int32) (v4 : Int32) (v5 : Int32) (H : Heap) (locs : List Loc) (ls : Array Slot), Pw s0 s E z h H locs → lv_has ls 7 [(0, .ref v0), (1, .int v1), (2, .int v2), (3, .int v3), (4, .int v4), (5, .int v5)] → f_X12_mostOften_30 n z i h v0 v1 v2 v3 v4 v5 = some (r, h') → W p l e (rmO 3 72) s m args below meth c H locs 0 0 (Zt below s0 E z h' (some (.int r)) args s 0 0) (F0 m 30 ls []) := by
  have hx := B.1
  have hb := B.2.1
  intro i
  induction i with
  | zero =>
    intro h v0 v1 v2 v3 v4 v5 H locs ls hw hl hf
    have hf := (f_X12_mostOften_30.eq_1 ..).symm.trans hf
    cases hf
  | succ i ih =>
    intro h v0 v1 v2 v3 v4 v5 H locs ls hw hl hf
    have hf := (f_X12_mostOften_30.eq_2 ..).symm.trans hf
    refine lv_iload hx hb dX12_mostOften_30 (lv_at hl 5 rfl) ?_
    refine lv_bipush (v := 10) hx hb dX12_mostOften_32 (by decide) ?_
    refine lv_icmp_ge (tgt := 110) hx hb dX12_mostOften_34 (by decide) (fun c1 => ?_) (fun c1 => ?_)
    · have hf := (if_pos c1).symm.trans hf
      refine lv_iload hx hb dX12_mostOften_110 (lv_at hl 4 rfl) ?_
      obtain ⟨rfl, rfl⟩ := so2 hf
      exact q_iret B hw hz hc0 hr hlk dX12_mostOften_112
    · have hf := (if_neg c1).symm.trans hf
      refine lv_iload_n hx hb dX12_mostOften_37 rfl (lv_at hl 3 rfl) ?_
      refine lv_i2l (v := (Int32.toInt64 v3)) hx hb dX12_mostOften_38 rfl ?_
      refine lv_iload hx hb dX12_mostOften_39 (lv_at hl 5 rfl) ?_
      obtain ⟨x2, e, hf⟩ := ob hf
      refine q_callS (As := [.long (Int32.toInt64 v3), .int v5]) (rest := []) (st1 := [.int x2]) (c_X12_isIn G e) B hw hz hc0 my_X12_isIn mv_X12_isIn tw_8_131 ⟨Nat.le_of_ble_eq_true rfl, Nat.le_of_ble_eq_true rfl⟩ ⟨Nat.zero_le _, Nat.zero_le _⟩ rfl hl.1 rfl rfl (Nat.le_of_ble_eq_true rfl) dX12_mostOften_41 (fun H locs hw => ?_)
      refine lv_if_ne (tgt := 50) hx hb dX12_mostOften_44 (by decide) (fun c3 => ?_) (fun c3 => ?_)
      · have hf := (if_neg c3).symm.trans hf
        refine lv_bipush (v := 9) hx hb dX12_mostOften_50 (by decide) ?_
        refine lv_aload_n hx hb dX12_mostOften_52 rfl (lv_at hl 0 rfl) ?_
        refine lv_iload hx hb dX12_mostOften_53 (lv_at hl 5 rfl) ?_
        refine lv_aload_n hx hb dX12_mostOften_55 rfl (lv_at hl 0 rfl) ?_
        refine lv_iload_n hx hb dX12_mostOften_56 rfl (lv_at hl 1 rfl) ?_
        obtain ⟨x4, e, hf⟩ := ob hf
        refine q_callV (As := [.int v1]) (rest := [.int v5, .ref v0, .int 9]) (st1 := [.int x4, .int v5, .ref v0, .int 9]) (c_X12_standNow G e) B hw hz hc0 (k_X12_standNow e) (by decide) (ci := 12) rfl rfl my_X12_standNow mv_X12_standNow tw_7_48 ⟨Nat.le_of_ble_eq_true rfl, Nat.le_of_ble_eq_true rfl⟩ ⟨Nat.zero_le _, Nat.zero_le _⟩ rfl hl.1 rfl rfl (Nat.le_of_ble_eq_true rfl) dX12_mostOften_57 (fun H locs hw => ?_)
        refine lv_iload_n hx hb dX12_mostOften_60 rfl (lv_at hl 2 rfl) ?_
        obtain ⟨⟨x5, h6⟩, e, hf⟩ := ob hf
        refine q_callV (As := [.int v5, .int x4, .int v2]) (rest := [.int 9]) (st1 := [.int x5, .int 9]) (c_X12_worthOf G e) B hw hz hc0 (k_X12_worthOf e) (by decide) (ci := 12) rfl rfl my_X12_worthOf mv_X12_worthOf tw_7_62 ⟨Nat.le_of_ble_eq_true rfl, Nat.le_of_ble_eq_true rfl⟩ ⟨Nat.zero_le _, Nat.zero_le _⟩ rfl hl.1 rfl rfl (Nat.le_of_ble_eq_true rfl) dX12_mostOften_61 (fun H locs hw => ?_)
        refine lv_iadd hx hb dX12_mostOften_64 ?_
        obtain ⟨x7, e, hf⟩ := ob hf
        refine q_nmI e ?_
        refine lv_istore (lv' := [(6, .int x7), (0, .ref v0), (1, .int v1), (2, .int v2), (3, .int v3), (4, .int v4), (5, .int v5)]) hx hb dX12_mostOften_65 hl (by decide) rfl (fun ls hl => ?_)
        refine lv_aload_n hx hb dX12_mostOften_67 rfl (lv_at hl 1 rfl) ?_
        obtain ⟨a8, e, hf⟩ := ob hf
        refine q_getR e B hw fd_12_31.1 fd_12_31.2.1 fd_12_31.2.2.1 fd_12_31.2.2.2.1 fd_12_31.2.2.2.2 rfl tw_6_74 dX12_mostOften_68 ?_
        refine lv_iload hx hb dX12_mostOften_71 (lv_at hl 0 rfl) ?_
        refine lv_dup2_11 hx hb dX12_mostOften_73 rfl rfl ?_
        obtain ⟨x9, e, hf⟩ := ob hf
        refine q_ldI e B hw dX12_mostOften_74 ?_
        refine lv_iconst (v := 1) hx hb dX12_mostOften_75 (by decide) ?_
        refine lv_iadd hx hb dX12_mostOften_76 ?_
        obtain ⟨h10, e, hf⟩ := ob hf
        refine q_stI e B hw dX12_mostOften_77 (fun H locs hw => ?_)
        refine lv_aload_n hx hb dX12_mostOften_78 rfl (lv_at hl 1 rfl) ?_
        obtain ⟨a11, e, hf⟩ := ob hf
        refine q_getR e B hw fd_12_31.1 fd_12_31.2.1 fd_12_31.2.2.1 fd_12_31.2.2.2.1 fd_12_31.2.2.2.2 rfl tw_6_74 dX12_mostOften_79 ?_
        refine lv_iload hx hb dX12_mostOften_82 (lv_at hl 0 rfl) ?_
        obtain ⟨x12, e, hf⟩ := ob hf
        refine q_ldI e B hw dX12_mostOften_84 ?_
        refine lv_iload hx hb dX12_mostOften_85 (lv_at hl 5 rfl) ?_
        refine lv_icmp_le (tgt := 100) hx hb dX12_mostOften_87 (by decide) (fun c13 => ?_) (fun c13 => ?_)
        · have hf := (if_pos c13).symm.trans hf
          refine lv_iload hx hb dX12_mostOften_100 (lv_at hl 5 rfl) ?_
          exact w_X12_mostOften_102 G B hz hc0 hr hlk ih h10 v0 v1 v2 v3 v5 v4 _ _ _ hw (lv_sub hl [1, 2, 3, 4, 6] rfl) hf
        · have hf := (if_neg c13).symm.trans hf
          refine lv_aload_n hx hb dX12_mostOften_90 rfl (lv_at hl 1 rfl) ?_
          obtain ⟨a14, e, hf⟩ := ob hf
          refine q_getR e B hw fd_12_31.1 fd_12_31.2.1 fd_12_31.2.2.1 fd_12_31.2.2.2.1 fd_12_31.2.2.2.2 rfl tw_6_74 dX12_mostOften_91 ?_
          refine lv_iload hx hb dX12_mostOften_94 (lv_at hl 0 rfl) ?_
          obtain ⟨x15, e, hf⟩ := ob hf
          refine q_ldI e B hw dX12_mostOften_96 ?_
          refine lv_goto (tgt := 102) hx hb dX12_mostOften_97 (by decide) ?_
          exact w_X12_mostOften_102 G B hz hc0 hr hlk ih h10 v0 v1 v2 v3 v5 x15 _ _ _ hw (lv_sub hl [1, 2, 3, 4, 6] rfl) hf
      · have hf := (if_pos c3).symm.trans hf
        refine lv_goto (tgt := 104) hx hb dX12_mostOften_47 (by decide) ?_
        exact w_X12_mostOften_104 G B hz hc0 hr hlk ih h v0 v1 v2 v3 v4 v5 _ _ _ hw (lv_sub hl [0, 1, 2, 3, 4, 5] rfl) hf
set_option maxHeartbeats 4000000 in
theorem w_X12_mostOften_6 {p : Program} {l : Launch} {e : Env} {s : State} {m : MethodId} {args : Array Value} {below : List Frame} {meth : Method} {c : Code} {s0 : State} {E : Ev} {z : Sh} {n : Nat} {r : Int32} {h' : Hp} (G : Gl s0 E) (B : Bd p s0 s E m c cX12_mostOften 7 RX12) (hz : s0.heap.size ≤ z.sz) (hc0 : s.heap.size + 0 = z.sz) (hr : meth.sig.returnType = (some .int)) (hlk : meth.locks = false) : ∀ (i : Nat), ∀ (h : Hp) (v0 : Nat) (v1 : Int32) (v2 : Int32) (v3 : Int32) (v4 : Int32) (v5 : Int32) (H : Heap) (locs : List Loc) (ls : Array Slot), Pw s0 s E z h H locs → lv_has ls 7 [(0, .ref v0), (1, .int v1), (2, .int v2), (3, .int v3), (4, .int v4), (5, .int v5)] → f_X12_mostOften_6 n z i h v0 v1 v2 v3 v4 v5 = some (r, h') → W p l e (rmO 3 72) s m args below meth c H locs 0 0 (Zt below s0 E z h' (some (.int r)) args s 0 0) (F0 m 6 ls []) := by
  have hx := B.1
  have hb := B.2.1
  intro i
  induction i with
  | zero =>
    intro h v0 v1 v2 v3 v4 v5 H locs ls hw hl hf
    have hf := (f_X12_mostOften_6.eq_1 ..).symm.trans hf
    cases hf
  | succ i ih =>
    intro h v0 v1 v2 v3 v4 v5 H locs ls hw hl hf
    have hf := (f_X12_mostOften_6.eq_2 ..).symm.trans hf
    refine lv_iload hx hb dX12_mostOften_6 (lv_at hl 5 rfl) ?_
    refine lv_bipush (v := 19) hx hb dX12_mostOften_8 (by decide) ?_
    refine lv_icmp_ge (tgt := 27) hx hb dX12_mostOften_10 (by decide) (fun c1 => ?_) (fun c1 => ?_)
    · have hf := (if_pos c1).symm.trans hf
      refine lv_iconst (v := 0) hx hb dX12_mostOften_27 (by decide) ?_
      refine lv_istore (lv' := [(5, .int 0), (0, .ref v0), (1, .int v1), (2, .int v2), (3, .int v3), (4, .int v4)]) hx hb dX12_mostOften_28 hl (by decide) rfl (fun ls hl => ?_)
      exact w_X12_mostOften_30 G B hz hc0 hr hlk  n h v0 v1 v2 v3 v4 0 _ _ _ hw (lv_sub hl [1, 2, 3, 4, 5, 0] rfl) hf
    · have hf := (if_neg c1).symm.trans hf
      refine lv_aload_n hx hb dX12_mostOften_13 rfl (lv_at hl 0 rfl) ?_
      obtain ⟨a2, e, hf⟩ := ob hf
      refine q_getR e B hw fd_12_31.1 fd_12_31.2.1 fd_12_31.2.2.1 fd_12_31.2.2.2.1 fd_12_31.2.2.2.2 rfl tw_6_74 dX12_mostOften_14 ?_
      refine lv_iload hx hb dX12_mostOften_17 (lv_at hl 5 rfl) ?_
      refine lv_iconst (v := 0) hx hb dX12_mostOften_19 (by decide) ?_
      obtain ⟨h3, e, hf⟩ := ob hf
      refine q_stI e B hw dX12_mostOften_20 (fun H locs hw => ?_)
      obtain ⟨x4, e, hf⟩ := ob hf
      refine lv_iinc (v := x4) (lv' := [(5, .int x4), (0, .ref v0), (1, .int v1), (2, .int v2), (3, .int v3), (4, .int v4)]) hx hb dX12_mostOften_21 hl (k := 5) rfl (Option.some.inj e) (by decide) rfl (fun ls hl => ?_)
      refine lv_goto (tgt := 6) hx hb dX12_mostOften_24 (by decide) ?_
      exact ih h3 v0 v1 v2 v3 v4 x4 _ _ _ hw (lv_sub hl [1, 2, 3, 4, 5, 0] rfl) hf
set_option maxHeartbeats 4000000 in
theorem c_X12_mostOften {l : Launch} {s0 : State} {E : Ev} (G : Gl s0 E) {n : Nat} {z : Sh} {h : Hp} {v0 : Nat} {v1 : Int32} {v2 : Int32} {v3 : Int32} {r : Int32} {h' : Hp} (hf : f_X12_mostOften n z h v0 v1 v2 v3 = some (r, h')) : Ct l s0 E yX12_mostOften cX12_mostOften 7 (some .int) 3 72 [.ref v0, .int v1, .int v2, .int v3] z h h' (some (.int r)) := by
  refine Ct.of G (by decide) (Nat.le_of_ble_eq_true rfl) ?_
  intro p e s m below meth c ls B hw hz hc0 hr hlk hl
  have B : Bd p s0 s E m c cX12_mostOften 7 RX12 := B
  have hx := B.1
  have hb := B.2.1
  have hl : lv_has ls 7 [(0, .ref v0), (1, .int v1), (2, .int v2), (3, .int v3)] := hl
  unfold f_X12_mostOften at hf
  obtain ⟨_, hf⟩ := if_some hf
  refine lv_iconst (v := 0) hx hb dX12_mostOften_0 (by decide) ?_
  refine lv_istore (lv' := [(4, .int 0), (0, .ref v0), (1, .int v1), (2, .int v2), (3, .int v3)]) hx hb dX12_mostOften_1 hl (by decide) rfl (fun ls hl => ?_)
  refine lv_iconst (v := 0) hx hb dX12_mostOften_3 (by decide) ?_
  refine lv_istore (lv' := [(5, .int 0), (4, .int 0), (0, .ref v0), (1, .int v1), (2, .int v2), (3, .int v3)]) hx hb dX12_mostOften_4 hl (by decide) rfl (fun ls hl => ?_)
  exact w_X12_mostOften_6 G B hz hc0 hr hlk  n h v0 v1 v2 v3 0 0 _ _ _ hw (lv_sub hl [2, 3, 4, 5, 1, 0] rfl) hf
/-! SecondLifeModel.attempt(III)I -/
def f_X12_attempt_85 (n : Nat) (z : Sh) (k40 : Hp → Nat → Int32 → Int32 → Int32 → Int32 → Int32 → Option (Int32 × Hp)) (h : Hp) (v0 : Nat) (v2 : Int32) (v5 : Int32) (v6 : Int32) (v7 : Int32) (v8 : Int32) : Option (Int32 × Hp) :=
  (some (v8 + 1)).bind fun x1 =>
  k40 h v0 v2 v5 v6 v7 x1
def f_X12_attempt_40 (n : Nat) (z : Sh) : Nat → Hp → Nat → Int32 → Int32 → Int32 → Int32 → Int32 → Option (Int32 × Hp)
  | 0, _, _, _, _, _, _, _ => none
  | i + 1, h, v0, v2, v5, v6, v7, v8 =>
    (gR z h 12 v0 1).bind fun a1 =>
    (ldI z h a1 2).bind fun x2 =>
    if x2 ≤ v8 then
      some (v6, h)
    else
      if v5 = 0 then
        some (v6, h)
      else
        (f_X12_mostOften n z h v0 v2 v8 v5).bind fun (x5, h6) =>
        if x5 < v7 then
          f_X12_attempt_85 n z (f_X12_attempt_40 n z i) h6 v0 v2 v5 v8 x5 v8
        else
          f_X12_attempt_85 n z (f_X12_attempt_40 n z i) h6 v0 v2 v5 v6 v7 v8
def f_X12_attempt (n : Nat) (z : Sh) (h : Hp) (v0 : Nat) (v1 : Int32) (v2 : Int32) (v3 : Int32) : Option (Int32 × Hp) :=
  if z.K v0 = 12 then
    (pI z h 12 v0 0 0).bind fun h1 =>
    (f_X12_noLived n z h1 v0 v1 v2).bind fun x2 =>
    if x2 = 0 then
      (f_X12_talentsOf n z h1 v0 v1 v2 v3).bind fun (x4, h5) =>
      f_X12_attempt_40 n z n h5 v0 v2 x4 (-1) 11 0
    else
      some (x2, h1)
  else none
theorem k_X12_attempt {n : Nat} {z : Sh} {h : Hp} {v0 : Nat} {v1 : Int32} {v2 : Int32} {v3 : Int32} {w : Int32 × Hp} (hf : f_X12_attempt n z h v0 v1 v2 v3 = some w) : z.K v0 = 12 := by
  unfold f_X12_attempt at hf
  exact (if_some hf).1
set_option maxHeartbeats 4000000 in
theorem w_X12_attempt_85 {p : Program} {l : Launch} {e : Env} {s : State} {m : MethodId} {args : Array Value} {below : List Frame} {meth : Method} {c : Code} {s0 : State} {E : Ev} {z : Sh} {n : Nat} {k40 : Hp → Nat → Int32 → Int32 → Int32 → Int32 → Int32 → Option (Int32 × Hp)} {r : Int32} {h' : Hp} (G : Gl s0 E) (B : Bd p s0 s E m c cX12_attempt 10 RX12) (hz : s0.heap.size ≤ z.sz) (hc0 : s.heap.size + 0 = z.sz) (hr : meth.sig.returnType = (some .int)) (hlk : meth.locks = false) (hk40 : ∀ (h : Hp) (v0 : Nat) (v2 : Int32) (v5 : Int32) (v6 : Int32) (v7 : Int32) (v8 : Int32) (H : Heap) (locs : List Loc) (ls : Array Slot), Pw s0 s E z h H locs → lv_has ls 10 [(0, .ref v0), (2, .int v2), (5, .int v5), (6, .int v6), (7, .int v7), (8, .int v8)] → k40 h v0 v2 v5 v6 v7 v8 = some (r, h') → W p l e (rmO 4 101) s m args below meth c H locs 0 0 (Zt below s0 E z h' (some (.int r)) args s 0 0) (F0 m 40 ls [])) : ∀ (h : Hp) (v0 : Nat) (v2 : Int32) (v5 : Int32) (v6 : Int32) (v7 : Int32) (v8 : Int32) (H : Heap) (locs : List Loc) (ls : Array Slot), Pw s0 s E z h H locs → lv_has ls 10 [(0, .ref v0), (2, .int v2), (5, .int v5), (6, .int v6), (7, .int v7), (8, .int v8)] → f_X12_attempt_85 n z k40 h v0 v2 v5 v6 v7 v8 = some (r, h') → W p l e (rmO 4 101) s m args below meth c H locs 0 0 (Zt below s0 E z h' (some (.int r)) args s 0 0) (F0 m 85 ls []) := by
  have hx := B.1
  have hb := B.2.1
  intro h v0 v2 v5 v6 v7 v8 H locs ls hw hl hf
  unfold f_X12_attempt_85 at hf
  obtain ⟨x1, e, hf⟩ := ob hf
  refine lv_iinc (v := x1) (lv' := [(8, .int x1), (0, .ref v0), (2, .int v2), (5, .int v5), (6, .int v6), (7, .int v7)]) hx hb dX12_attempt_85 hl (k := 5) rfl (Option.some.inj e) (by decide) rfl (fun ls hl => ?_)
  refine lv_goto (tgt := 40) hx hb dX12_attempt_88 (by decide) ?_
  exact hk40 h v0 v2 v5 v6 v7 x1 _ _ _ hw (lv_sub hl [1, 2, 3, 4, 5, 0] rfl) hf
set_option maxHeartbeats 4000000 in
theorem w_X12_attempt_40 {p : Program} {l : Launch} {e : Env} {s : State} {m : MethodId} {args : Array Value} {below : List Frame} {meth : Method} {c : Code} {s0 : State} {E : Ev} {z : Sh} {n : Nat} {r : Int32} {h' : Hp} (G : Gl s0 E) (B : Bd p s0 s E m c cX12_attempt 10 RX12) (hz : s0.heap.size ≤ z.sz) (hc0 : s.heap.size + 0 = z.sz) (hr : meth.sig.returnType = (some .int)) (hlk : meth.locks = false) : ∀ (i : Nat), ∀ (h : Hp) (v0 : Nat) (v2 : Int32) (v5 : Int32) (v6 : Int32) (v7 : Int32) (v8 : Int32) (H : Heap) (locs : List Loc) (ls : Array Slot), Pw s0 s E z h H locs → lv_has ls 10 [(0, .ref v0), (2, .int v2), (5, .int v5), (6, .int v6), (7, .int v7), (8, .int v8)] → f_X12_attempt_40 n z i h v0 v2 v5 v6 v7 v8 = some (r, h') → W p l e (rmO 4 101) s m args below meth c H locs 0 0 (Zt below s0 E z h' (some (.int r)) args s 0 0) (F0 m 40 ls []) := by
  have hx := B.1
  have hb := B.2.1
  intro i
  induction i with
  | zero =>
    intro h v0 v2 v5 v6 v7 v8 H locs ls hw hl hf
    have hf := (f_X12_attempt_40.eq_1 ..).symm.trans hf
    cases hf
  | succ i ih =>
    intro h v0 v2 v5 v6 v7 v8 H locs ls hw hl hf
    have hf := (f_X12_attempt_40.eq_2 ..).symm.trans hf
    refine lv_iload hx hb dX12_attempt_40 (lv_at hl 5 rfl) ?_
    refine lv_aload_n hx hb dX12_attempt_42 rfl (lv_at hl 0 rfl) ?_
    obtain ⟨a1, e, hf⟩ := ob hf
    refine q_getR e B hw fd_12_1.1 fd_12_1.2.1 fd_12_1.2.2.1 fd_12_1.2.2.2.1 fd_12_1.2.2.2.2 rfl tw_6_44 dX12_attempt_43 ?_
    refine lv_iconst (v := 2) hx hb dX12_attempt_46 (by decide) ?_
    obtain ⟨x2, e, hf⟩ := ob hf
    refine q_ldI e B hw dX12_attempt_47 ?_
    refine lv_icmp_ge (tgt := 91) hx hb dX12_attempt_48 (by decide) (fun c3 => ?_) (fun c3 => ?_)
    · have hf := (if_pos c3).symm.trans hf
      refine lv_iload hx hb dX12_attempt_91 (lv_at hl 3 rfl) ?_
      obtain ⟨rfl, rfl⟩ := so2 hf
      exact q_iret B hw hz hc0 hr hlk dX12_attempt_93
    · have hf := (if_neg c3).symm.trans hf
      refine lv_iload hx hb dX12_attempt_51 (lv_at hl 2 rfl) ?_
      refine lv_if_eq (tgt := 91) hx hb dX12_attempt_53 (by decide) (fun c4 => ?_) (fun c4 => ?_)
      · have hf := (if_pos c4).symm.trans hf
        refine lv_iload hx hb dX12_attempt_91 (lv_at hl 3 rfl) ?_
        obtain ⟨rfl, rfl⟩ := so2 hf
        exact q_iret B hw hz hc0 hr hlk dX12_attempt_93
      · have hf := (if_neg c4).symm.trans hf
        refine lv_aload_n hx hb dX12_attempt_56 rfl (lv_at hl 0 rfl) ?_
        refine lv_iload_n hx hb dX12_attempt_57 rfl (lv_at hl 1 rfl) ?_
        refine lv_iload hx hb dX12_attempt_58 (lv_at hl 5 rfl) ?_
        refine lv_iload hx hb dX12_attempt_60 (lv_at hl 2 rfl) ?_
        obtain ⟨⟨x5, h6⟩, e, hf⟩ := ob hf
        refine q_callV (As := [.int v2, .int v8, .int v5]) (rest := []) (st1 := [.int x5]) (c_X12_mostOften G e) B hw hz hc0 (k_X12_mostOften e) (by decide) (ci := 12) rfl rfl my_X12_mostOften mv_X12_mostOften tw_8_127 ⟨Nat.le_of_ble_eq_true rfl, Nat.le_of_ble_eq_true rfl⟩ ⟨Nat.zero_le _, Nat.zero_le _⟩ rfl hl.1 rfl rfl (Nat.le_of_ble_eq_true rfl) dX12_attempt_62 (fun H locs hw => ?_)
        refine lv_istore (lv' := [(9, .int x5), (0, .ref v0), (2, .int v2), (5, .int v5), (6, .int v6), (7, .int v7), (8, .int v8)]) hx hb dX12_attempt_65 hl (by decide) rfl (fun ls hl => ?_)
        refine lv_iload hx hb dX12_attempt_67 (lv_at hl 0 rfl) ?_
        refine lv_iload hx hb dX12_attempt_69 (lv_at hl 5 rfl) ?_
        refine lv_icmp_lt (tgt := 77) hx hb dX12_attempt_71 (by decide) (fun c7 => ?_) (fun c7 => ?_)
        · have hf := (if_pos c7).symm.trans hf
          refine lv_iload hx hb dX12_attempt_77 (lv_at hl 6 rfl) ?_
          refine lv_istore (lv' := [(6, .int v8), (9, .int x5), (0, .ref v0), (2, .int v2), (5, .int v5), (7, .int v7), (8, .int v8)]) hx hb dX12_attempt_79 hl (by decide) rfl (fun ls hl => ?_)
          refine lv_iload hx hb dX12_attempt_81 (lv_at hl 1 rfl) ?_
          refine lv_istore (lv' := [(7, .int x5), (6, .int v8), (9, .int x5), (0, .ref v0), (2, .int v2), (5, .int v5), (8, .int v8)]) hx hb dX12_attempt_83 hl (by decide) rfl (fun ls hl => ?_)
          exact w_X12_attempt_85 G B hz hc0 hr hlk ih h6 v0 v2 v5 v8 x5 v8 _ _ _ hw (lv_sub hl [3, 4, 5, 1, 0, 6] rfl) hf
        · have hf := (if_neg c7).symm.trans hf
          refine lv_goto (tgt := 85) hx hb dX12_attempt_74 (by decide) ?_
          exact w_X12_attempt_85 G B hz hc0 hr hlk ih h6 v0 v2 v5 v6 v7 v8 _ _ _ hw (lv_sub hl [1, 2, 3, 4, 5, 6] rfl) hf
set_option maxHeartbeats 4000000 in
theorem c_X12_attempt {l : Launch} {s0 : State} {E : Ev} (G : Gl s0 E) {n : Nat} {z : Sh} {h : Hp} {v0 : Nat} {v1 : Int32} {v2 : Int32} {v3 : Int32} {r : Int32} {h' : Hp} (hf : f_X12_attempt n z h v0 v1 v2 v3 = some (r, h')) : Ct l s0 E yX12_attempt cX12_attempt 10 (some .int) 4 101 [.ref v0, .int v1, .int v2, .int v3] z h h' (some (.int r)) := by
  refine Ct.of G (by decide) (Nat.le_of_ble_eq_true rfl) ?_
  intro p e s m below meth c ls B hw hz hc0 hr hlk hl
  have B : Bd p s0 s E m c cX12_attempt 10 RX12 := B
  have hx := B.1
  have hb := B.2.1
  have hl : lv_has ls 10 [(0, .ref v0), (1, .int v1), (2, .int v2), (3, .int v3)] := hl
  unfold f_X12_attempt at hf
  obtain ⟨_, hf⟩ := if_some hf
  refine lv_aload_n hx hb dX12_attempt_0 rfl (lv_at hl 0 rfl) ?_
  refine lv_iconst (v := 0) hx hb dX12_attempt_1 (by decide) ?_
  obtain ⟨h1, e, hf⟩ := ob hf
  refine q_putI e B hw fd_12_0.1 fd_12_0.2.1 fd_12_0.2.2.1 fd_12_0.2.2.2.1 fd_12_0.2.2.2.2 rfl rfl (tyX12_ok 0 (by decide)) tyX12 tyX12_ok nmX12 tw_6_43 dX12_attempt_2 (fun H locs hw => ?_)
  refine lv_aload_n hx hb dX12_attempt_5 rfl (lv_at hl 0 rfl) ?_
  refine lv_iload_n hx hb dX12_attempt_6 rfl (lv_at hl 1 rfl) ?_
  refine lv_iload_n hx hb dX12_attempt_7 rfl (lv_at hl 2 rfl) ?_
  obtain ⟨x2, e, hf⟩ := ob hf
  refine q_callV (As := [.int v1, .int v2]) (rest := []) (st1 := [.int x2]) (c_X12_noLived G e) B hw hz hc0 (k_X12_noLived e) (by decide) (ci := 12) rfl rfl my_X12_noLived mv_X12_noLived tw_8_113 ⟨Nat.le_of_ble_eq_true rfl, Nat.le_of_ble_eq_true rfl⟩ ⟨Nat.zero_le _, Nat.zero_le _⟩ rfl hl.1 rfl rfl (Nat.le_of_ble_eq_true rfl) dX12_attempt_8 (fun H locs hw => ?_)
  refine lv_istore (lv' := [(4, .int x2), (0, .ref v0), (1, .int v1), (2, .int v2), (3, .int v3)]) hx hb dX12_attempt_11 hl (by decide) rfl (fun ls hl => ?_)
  refine lv_iload hx hb dX12_attempt_13 (lv_at hl 0 rfl) ?_
  refine lv_if_eq (tgt := 21) hx hb dX12_attempt_15 (by decide) (fun c3 => ?_) (fun c3 => ?_)
  · have hf := (if_pos c3).symm.trans hf
    refine lv_aload_n hx hb dX12_attempt_21 rfl (lv_at hl 1 rfl) ?_
    refine lv_iload_n hx hb dX12_attempt_22 rfl (lv_at hl 2 rfl) ?_
    refine lv_iload_n hx hb dX12_attempt_23 rfl (lv_at hl 3 rfl) ?_
    refine lv_iload_n hx hb dX12_attempt_24 rfl (lv_at hl 4 rfl) ?_
    obtain ⟨⟨x4, h5⟩, e, hf⟩ := ob hf
    refine q_callV (As := [.int v1, .int v2, .int v3]) (rest := []) (st1 := [.int x4]) (c_X12_talentsOf G e) B hw hz hc0 (k_X12_talentsOf e) (by decide) (ci := 12) rfl rfl my_X12_talentsOf mv_X12_talentsOf tw_8_119 ⟨Nat.le_of_ble_eq_true rfl, Nat.le_of_ble_eq_true rfl⟩ ⟨Nat.zero_le _, Nat.zero_le _⟩ rfl hl.1 rfl rfl (Nat.le_of_ble_eq_true rfl) dX12_attempt_25 (fun H locs hw => ?_)
    refine lv_istore (lv' := [(5, .int x4), (4, .int x2), (0, .ref v0), (1, .int v1), (2, .int v2), (3, .int v3)]) hx hb dX12_attempt_28 hl (by decide) rfl (fun ls hl => ?_)
    refine lv_iconst (v := (-1)) hx hb dX12_attempt_30 (by decide) ?_
    refine lv_istore (lv' := [(6, .int (-1)), (5, .int x4), (4, .int x2), (0, .ref v0), (1, .int v1), (2, .int v2), (3, .int v3)]) hx hb dX12_attempt_31 hl (by decide) rfl (fun ls hl => ?_)
    refine lv_bipush (v := 11) hx hb dX12_attempt_33 (by decide) ?_
    refine lv_istore (lv' := [(7, .int 11), (6, .int (-1)), (5, .int x4), (4, .int x2), (0, .ref v0), (1, .int v1), (2, .int v2), (3, .int v3)]) hx hb dX12_attempt_35 hl (by decide) rfl (fun ls hl => ?_)
    refine lv_iconst (v := 0) hx hb dX12_attempt_37 (by decide) ?_
    refine lv_istore (lv' := [(8, .int 0), (7, .int 11), (6, .int (-1)), (5, .int x4), (4, .int x2), (0, .ref v0), (1, .int v1), (2, .int v2), (3, .int v3)]) hx hb dX12_attempt_38 hl (by decide) rfl (fun ls hl => ?_)
    exact w_X12_attempt_40 G B hz hc0 hr hlk  n h5 v0 v2 x4 (-1) 11 0 _ _ _ hw (lv_sub hl [5, 7, 3, 2, 1, 0] rfl) hf
  · have hf := (if_neg c3).symm.trans hf
    refine lv_iload hx hb dX12_attempt_18 (lv_at hl 0 rfl) ?_
    obtain ⟨rfl, rfl⟩ := so2 hf
    exact q_iret B hw hz hc0 hr hlk dX12_attempt_20
/-! SecondLifeModel.isSet(I)Z -/
def f_X12_isSet (z : Sh) (h : Hp) (v0 : Nat) (v1 : Int32) : Option (Int32) :=
  if z.K v0 = 12 then
    if v1 < 0 then
      some 0
    else
      (gR z h 12 v0 1).bind fun a2 =>
      (ldI z h a2 3).bind fun x3 =>
      if ((1 : Int32) <<< (x3 &&& 31)) ≤ v1 then
        some 0
      else
        some 1
  else none
theorem k_X12_isSet {z : Sh} {h : Hp} {v0 : Nat} {v1 : Int32} {w : Int32} (hf : f_X12_isSet z h v0 v1 = some w) : z.K v0 = 12 := by
  unfold f_X12_isSet at hf
  exact (if_some hf).1
set_option maxHeartbeats 4000000 in
theorem c_X12_isSet {l : Launch} {s0 : State} {E : Ev} (G : Gl s0 E) {z : Sh} {h : Hp} {v0 : Nat} {v1 : Int32} {r : Int32} (hf : f_X12_isSet z h v0 v1 = some r) : Ct l s0 E yX12_isSet cX12_isSet 2 (some .boolean) 0 0 [.ref v0, .int v1] z h h (some (.int r)) := by
  refine Ct.of G (by decide) (Nat.le_of_ble_eq_true rfl) ?_
  intro p e s m below meth c ls B hw hz hc0 hr hlk hl
  have B : Bd p s0 s E m c cX12_isSet 2 RX12 := B
  have hx := B.1
  have hb := B.2.1
  have hl : lv_has ls 2 [(0, .ref v0), (1, .int v1)] := hl
  unfold f_X12_isSet at hf
  obtain ⟨_, hf⟩ := if_some hf
  refine lv_iload_n hx hb dX12_isSet_0 rfl (lv_at hl 1 rfl) ?_
  refine lv_if_lt (tgt := 20) hx hb dX12_isSet_1 (by decide) (fun c1 => ?_) (fun c1 => ?_)
  · have hf := (if_pos c1).symm.trans hf
    refine lv_iconst (v := 0) hx hb dX12_isSet_20 (by decide) ?_
    obtain rfl := so hf
    exact q_zret (Or.inl rfl) B hw hz hc0 hr hlk dX12_isSet_21
  · have hf := (if_neg c1).symm.trans hf
    refine lv_iload_n hx hb dX12_isSet_4 rfl (lv_at hl 1 rfl) ?_
    refine lv_iconst (v := 1) hx hb dX12_isSet_5 (by decide) ?_
    refine lv_aload_n hx hb dX12_isSet_6 rfl (lv_at hl 0 rfl) ?_
    obtain ⟨a2, e, hf⟩ := ob hf
    refine q_getR e B hw fd_12_1.1 fd_12_1.2.1 fd_12_1.2.2.1 fd_12_1.2.2.2.1 fd_12_1.2.2.2.2 rfl tw_6_44 dX12_isSet_7 ?_
    refine lv_iconst (v := 3) hx hb dX12_isSet_10 (by decide) ?_
    obtain ⟨x3, e, hf⟩ := ob hf
    refine q_ldI e B hw dX12_isSet_11 ?_
    refine lv_ishl hx hb dX12_isSet_12 ?_
    refine lv_icmp_ge (tgt := 20) hx hb dX12_isSet_13 (by decide) (fun c4 => ?_) (fun c4 => ?_)
    · have hf := (if_pos c4).symm.trans hf
      refine lv_iconst (v := 0) hx hb dX12_isSet_20 (by decide) ?_
      obtain rfl := so hf
      exact q_zret (Or.inl rfl) B hw hz hc0 hr hlk dX12_isSet_21
    · have hf := (if_neg c4).symm.trans hf
      refine lv_iconst (v := 1) hx hb dX12_isSet_16 (by decide) ?_
      refine lv_goto (tgt := 21) hx hb dX12_isSet_17 (by decide) ?_
      obtain rfl := so hf
      exact q_zret (Or.inr rfl) B hw hz hc0 hr hlk dX12_isSet_21
/-! SecondLifeModel.joins(II)I -/
def f_X12_joins_52 (n : Nat) (z : Sh) (h : Hp) (k5 : Nat → Int32 → Int32 → Int32 → Int32 → Option (Int32)) (v0 : Nat) (v1 : Int32) (v2 : Int32) (v4 : Int32) (u0 : Int32) (u1 : Int32) : Option (Int32) :=
  (some (u1 ||| u0)).bind fun x1 =>
  (some (v4 + 1)).bind fun x2 =>
  k5 v0 v1 v2 x1 x2
def f_X12_joins_51 (n : Nat) (z : Sh) (h : Hp) (k5 : Nat → Int32 → Int32 → Int32 → Int32 → Option (Int32)) (v0 : Nat) (v1 : Int32) (v2 : Int32) (v4 : Int32) (u0 : Int32) : Option (Int32) :=
  f_X12_joins_52 n z h k5 v0 v1 v2 v4 0 u0
def f_X12_joins_5 (n : Nat) (z : Sh) (h : Hp) : Nat → Nat → Int32 → Int32 → Int32 → Int32 → Option (Int32)
  | 0, _, _, _, _, _ => none
  | i + 1, v0, v1, v2, v3, v4 =>
    (gR z h 12 v0 1).bind fun a1 =>
    (ldI z h a1 3).bind fun x2 =>
    if x2 ≤ v4 then
      some v3
    else
      (f_X12_isIn z h (Int32.toInt64 v2) v4).bind fun x4 =>
      if x4 = 0 then
        (f_X12_bitsOf n z h v1).bind fun x6 =>
        (gR z h 12 v0 1).bind fun a7 =>
        (ldI z h a7 (11 + v4)).bind fun x8 =>
        if x6 < x8 then
          f_X12_joins_51 n z h (f_X12_joins_5 n z h i) v0 v1 v2 v4 v3
        else
          f_X12_joins_52 n z h (f_X12_joins_5 n z h i) v0 v1 v2 v4 ((1 : Int32) <<< (v4 &&& 31)) v3
      else
        f_X12_joins_51 n z h (f_X12_joins_5 n z h i) v0 v1 v2 v4 v3
def f_X12_joins (n : Nat) (z : Sh) (h : Hp) (v0 : Nat) (v1 : Int32) (v2 : Int32) : Option (Int32) :=
  if z.K v0 = 12 then
    f_X12_joins_5 n z h n v0 v1 v2 v1 0
  else none
theorem k_X12_joins {n : Nat} {z : Sh} {h : Hp} {v0 : Nat} {v1 : Int32} {v2 : Int32} {w : Int32} (hf : f_X12_joins n z h v0 v1 v2 = some w) : z.K v0 = 12 := by
  unfold f_X12_joins at hf
  exact (if_some hf).1
set_option maxHeartbeats 4000000 in
theorem w_X12_joins_52 {p : Program} {l : Launch} {e : Env} {s : State} {m : MethodId} {args : Array Value} {below : List Frame} {meth : Method} {c : Code} {s0 : State} {E : Ev} {z : Sh} {h : Hp} {n : Nat} {k5 : Nat → Int32 → Int32 → Int32 → Int32 → Option (Int32)} {r : Int32} (G : Gl s0 E) (B : Bd p s0 s E m c cX12_joins 5 RX12) (hz : s0.heap.size ≤ z.sz) (hc0 : s.heap.size + 0 = z.sz) (hr : meth.sig.returnType = (some .int)) (hlk : meth.locks = false) (hk5 : ∀ (v0 : Nat) (v1 : Int32) (v2 : Int32) (v3 : Int32) (v4 : Int32) (H : Heap) (locs : List Loc) (ls : Array Slot), Pw s0 s E z h H locs → lv_has ls 5 [(0, .ref v0), (1, .int v1), (2, .int v2), (3, .int v3), (4, .int v4)] → k5 v0 v1 v2 v3 v4 = some r → W p l e (rmO 1 22) s m args below meth c H locs 0 0 (Zt below s0 E z h (some (.int r)) args s 0 0) (F0 m 5 ls [])) : ∀ (v0 : Nat) (v1 : Int32) (v2 : Int32) (v4 : Int32) (u0 : Int32) (u1 : Int32) (H : Heap) (locs : List Loc) (ls : Array Slot), Pw s0 s E z h H locs → lv_has ls 5 [(0, .ref v0), (1, .int v1), (2, .int v2), (4, .int v4)] → f_X12_joins_52 n z h k5 v0 v1 v2 v4 u0 u1 = some r → W p l e (rmO 1 22) s m args below meth c H locs 0 0 (Zt below s0 E z h (some (.int r)) args s 0 0) (F0 m 52 ls [.int u0, .int u1]) := by
  have hx := B.1
  have hb := B.2.1
  intro v0 v1 v2 v4 u0 u1 H locs ls hw hl hf
  unfold f_X12_joins_52 at hf
  refine lv_ior hx hb dX12_joins_52 ?_
  obtain ⟨x1, e, hf⟩ := ob hf
  refine q_nmI e ?_
  refine lv_istore_n (lv' := [(3, .int x1), (0, .ref v0), (1, .int v1), (2, .int v2), (4, .int v4)]) hx hb dX12_joins_53 rfl hl (by decide) rfl (fun ls hl => ?_)
  obtain ⟨x2, e, hf⟩ := ob hf
  refine lv_iinc (v := x2) (lv' := [(4, .int x2), (3, .int x1), (0, .ref v0), (1, .int v1), (2, .int v2)]) hx hb dX12_joins_54 hl (k := 4) rfl (Option.some.inj e) (by decide) rfl (fun ls hl => ?_)
  refine lv_goto (tgt := 5) hx hb dX12_joins_57 (by decide) ?_
  exact hk5 v0 v1 v2 x1 x2 _ _ _ hw (lv_sub hl [2, 3, 4, 1, 0] rfl) hf
set_option maxHeartbeats 4000000 in
theorem w_X12_joins_51 {p : Program} {l : Launch} {e : Env} {s : State} {m : MethodId} {args : Array Value} {below : List Frame} {meth : Method} {c : Code} {s0 : State} {E : Ev} {z : Sh} {h : Hp} {n : Nat} {k5 : Nat → Int32 → Int32 → Int32 → Int32 → Option (Int32)} {r : Int32} (G : Gl s0 E) (B : Bd p s0 s E m c cX12_joins 5 RX12) (hz : s0.heap.size ≤ z.sz) (hc0 : s.heap.size + 0 = z.sz) (hr : meth.sig.returnType = (some .int)) (hlk : meth.locks = false) (hk5 : ∀ (v0 : Nat) (v1 : Int32) (v2 : Int32) (v3 : Int32) (v4 : Int32) (H : Heap) (locs : List Loc) (ls : Array Slot), Pw s0 s E z h H locs → lv_has ls 5 [(0, .ref v0), (1, .int v1), (2, .int v2), (3, .int v3), (4, .int v4)] → k5 v0 v1 v2 v3 v4 = some r → W p l e (rmO 1 22) s m args below meth c H locs 0 0 (Zt below s0 E z h (some (.int r)) args s 0 0) (F0 m 5 ls [])) : ∀ (v0 : Nat) (v1 : Int32) (v2 : Int32) (v4 : Int32) (u0 : Int32) (H : Heap) (locs : List Loc) (ls : Array Slot), Pw s0 s E z h H locs → lv_has ls 5 [(0, .ref v0), (1, .int v1), (2, .int v2), (4, .int v4)] → f_X12_joins_51 n z h k5 v0 v1 v2 v4 u0 = some r → W p l e (rmO 1 22) s m args below meth c H locs 0 0 (Zt below s0 E z h (some (.int r)) args s 0 0) (F0 m 51 ls [.int u0]) := by
  have hx := B.1
  have hb := B.2.1
  intro v0 v1 v2 v4 u0 H locs ls hw hl hf
  unfold f_X12_joins_51 at hf
  refine lv_iconst (v := 0) hx hb dX12_joins_51 (by decide) ?_
  exact w_X12_joins_52 G B hz hc0 hr hlk hk5 v0 v1 v2 v4 0 u0 _ _ _ hw (lv_sub hl [0, 1, 2, 3] rfl) hf
set_option maxHeartbeats 4000000 in
theorem w_X12_joins_5 {p : Program} {l : Launch} {e : Env} {s : State} {m : MethodId} {args : Array Value} {below : List Frame} {meth : Method} {c : Code} {s0 : State} {E : Ev} {z : Sh} {h : Hp} {n : Nat} {r : Int32} (G : Gl s0 E) (B : Bd p s0 s E m c cX12_joins 5 RX12) (hz : s0.heap.size ≤ z.sz) (hc0 : s.heap.size + 0 = z.sz) (hr : meth.sig.returnType = (some .int)) (hlk : meth.locks = false) : ∀ (i : Nat), ∀ (v0 : Nat) (v1 : Int32) (v2 : Int32) (v3 : Int32) (v4 : Int32) (H : Heap) (locs : List Loc) (ls : Array Slot), Pw s0 s E z h H locs → lv_has ls 5 [(0, .ref v0), (1, .int v1), (2, .int v2), (3, .int v3), (4, .int v4)] → f_X12_joins_5 n z h i v0 v1 v2 v3 v4 = some r → W p l e (rmO 1 22) s m args below meth c H locs 0 0 (Zt below s0 E z h (some (.int r)) args s 0 0) (F0 m 5 ls []) := by
  have hx := B.1
  have hb := B.2.1
  intro i
  induction i with
  | zero =>
    intro v0 v1 v2 v3 v4 H locs ls hw hl hf
    have hf := (f_X12_joins_5.eq_1 ..).symm.trans hf
    cases hf
  | succ i ih =>
    intro v0 v1 v2 v3 v4 H locs ls hw hl hf
    have hf := (f_X12_joins_5.eq_2 ..).symm.trans hf
    refine lv_iload hx hb dX12_joins_5 (lv_at hl 4 rfl) ?_
    refine lv_aload_n hx hb dX12_joins_7 rfl (lv_at hl 0 rfl) ?_
    obtain ⟨a1, e, hf⟩ := ob hf
    refine q_getR e B hw fd_12_1.1 fd_12_1.2.1 fd_12_1.2.2.1 fd_12_1.2.2.2.1 fd_12_1.2.2.2.2 rfl tw_6_44 dX12_joins_8 ?_
    refine lv_iconst (v := 3) hx hb dX12_joins_11 (by decide) ?_
    obtain ⟨x2, e, hf⟩ := ob hf
    refine q_ldI e B hw dX12_joins_12 ?_
    refine lv_icmp_ge (tgt := 60) hx hb dX12_joins_13 (by decide) (fun c3 => ?_) (fun c3 => ?_)
    · have hf := (if_pos c3).symm.trans hf
      refine lv_iload_n hx hb dX12_joins_60 rfl (lv_at hl 3 rfl) ?_
      obtain rfl := so hf
      exact q_iret B hw hz hc0 hr hlk dX12_joins_61
    · have hf := (if_neg c3).symm.trans hf
      refine lv_iload_n hx hb dX12_joins_16 rfl (lv_at hl 3 rfl) ?_
      refine lv_iload_n hx hb dX12_joins_17 rfl (lv_at hl 2 rfl) ?_
      refine lv_i2l (v := (Int32.toInt64 v2)) hx hb dX12_joins_18 rfl ?_
      refine lv_iload hx hb dX12_joins_19 (lv_at hl 4 rfl) ?_
      obtain ⟨x4, e, hf⟩ := ob hf
      refine q_callS (As := [.long (Int32.toInt64 v2), .int v4]) (rest := [.int v3]) (st1 := [.int x4, .int v3]) (c_X12_isIn G e) B hw hz hc0 my_X12_isIn mv_X12_isIn tw_8_131 ⟨Nat.le_of_ble_eq_true rfl, Nat.le_of_ble_eq_true rfl⟩ ⟨Nat.zero_le _, Nat.zero_le _⟩ rfl hl.1 rfl rfl (Nat.le_of_ble_eq_true rfl) dX12_joins_21 (fun H locs hw => ?_)
      refine lv_if_ne (tgt := 51) hx hb dX12_joins_24 (by decide) (fun c5 => ?_) (fun c5 => ?_)
      · have hf := (if_neg c5).symm.trans hf
        exact w_X12_joins_51 G B hz hc0 hr hlk ih v0 v1 v2 v4 v3 _ _ _ hw (lv_sub hl [0, 1, 2, 4] rfl) hf
      · have hf := (if_pos c5).symm.trans hf
        refine lv_iload_n hx hb dX12_joins_27 rfl (lv_at hl 1 rfl) ?_
        obtain ⟨x6, e, hf⟩ := ob hf
        refine q_callS (As := [.int v1]) (rest := [.int v3]) (st1 := [.int x6, .int v3]) (c_X12_bitsOf G e) B hw hz hc0 my_X12_bitsOf mv_X12_bitsOf tw_8_150 ⟨Nat.le_of_ble_eq_true rfl, Nat.le_of_ble_eq_true rfl⟩ ⟨Nat.zero_le _, Nat.zero_le _⟩ rfl hl.1 rfl rfl (Nat.le_of_ble_eq_true rfl) dX12_joins_28 (fun H locs hw => ?_)
        refine lv_aload_n hx hb dX12_joins_31 rfl (lv_at hl 0 rfl) ?_
        obtain ⟨a7, e, hf⟩ := ob hf
        refine q_getR e B hw fd_12_1.1 fd_12_1.2.1 fd_12_1.2.2.1 fd_12_1.2.2.2.1 fd_12_1.2.2.2.2 rfl tw_6_44 dX12_joins_32 ?_
        refine lv_bipush (v := 11) hx hb dX12_joins_35 (by decide) ?_
        refine lv_iload hx hb dX12_joins_37 (lv_at hl 4 rfl) ?_
        refine lv_iadd hx hb dX12_joins_39 ?_
        obtain ⟨x8, e, hf⟩ := ob hf
        refine q_ldI e B hw dX12_joins_40 ?_
        refine lv_icmp_lt (tgt := 51) hx hb dX12_joins_41 (by decide) (fun c9 => ?_) (fun c9 => ?_)
        · have hf := (if_pos c9).symm.trans hf
          exact w_X12_joins_51 G B hz hc0 hr hlk ih v0 v1 v2 v4 v3 _ _ _ hw (lv_sub hl [0, 1, 2, 4] rfl) hf
        · have hf := (if_neg c9).symm.trans hf
          refine lv_iconst (v := 1) hx hb dX12_joins_44 (by decide) ?_
          refine lv_iload hx hb dX12_joins_45 (lv_at hl 4 rfl) ?_
          refine lv_ishl hx hb dX12_joins_47 ?_
          refine lv_goto (tgt := 52) hx hb dX12_joins_48 (by decide) ?_
          exact w_X12_joins_52 G B hz hc0 hr hlk ih v0 v1 v2 v4 ((1 : Int32) <<< (v4 &&& 31)) v3 _ _ _ hw (lv_sub hl [0, 1, 2, 4] rfl) hf
set_option maxHeartbeats 4000000 in
theorem c_X12_joins {l : Launch} {s0 : State} {E : Ev} (G : Gl s0 E) {n : Nat} {z : Sh} {h : Hp} {v0 : Nat} {v1 : Int32} {v2 : Int32} {r : Int32} (hf : f_X12_joins n z h v0 v1 v2 = some r) : Ct l s0 E yX12_joins cX12_joins 5 (some .int) 1 22 [.ref v0, .int v1, .int v2] z h h (some (.int r)) := by
  refine Ct.of G (by decide) (Nat.le_of_ble_eq_true rfl) ?_
  intro p e s m below meth c ls B hw hz hc0 hr hlk hl
  have B : Bd p s0 s E m c cX12_joins 5 RX12 := B
  have hx := B.1
  have hb := B.2.1
  have hl : lv_has ls 5 [(0, .ref v0), (1, .int v1), (2, .int v2)] := hl
  unfold f_X12_joins at hf
  obtain ⟨_, hf⟩ := if_some hf
  refine lv_iload_n hx hb dX12_joins_0 rfl (lv_at hl 1 rfl) ?_
  refine lv_istore_n (lv' := [(3, .int v1), (0, .ref v0), (1, .int v1), (2, .int v2)]) hx hb dX12_joins_1 rfl hl (by decide) rfl (fun ls hl => ?_)
  refine lv_iconst (v := 0) hx hb dX12_joins_2 (by decide) ?_
  refine lv_istore (lv' := [(4, .int 0), (3, .int v1), (0, .ref v0), (1, .int v1), (2, .int v2)]) hx hb dX12_joins_3 hl (by decide) rfl (fun ls hl => ?_)
  exact w_X12_joins_5 G B hz hc0 hr hlk  n v0 v1 v2 v1 0 _ _ _ hw (lv_sub hl [2, 3, 4, 1, 0] rfl) hf
/-! SecondLifeModel.runOf(II)I -/
def f_X12_runOf_7 (n : Nat) (z : Sh) : Nat → Hp → Nat → Int32 → Int32 → Option (Int32 × Hp)
  | 0, _, _, _, _ => none
  | i + 1, h, v0, v2, v3 =>
    (f_X12_joins n z h v0 v3 v2).bind fun x1 =>
    if x1 = v3 then
      some (v3, h)
    else
      (f_X12_joins n z h v0 v3 v2).bind fun x3 =>
      (gI z h 12 v0 32).bind fun x4 =>
      (pI z h 12 v0 32 (x4 + 1)).bind fun h5 =>
      (f_X12_runOf_7 n z i) h5 v0 v2 x3
def f_X12_runOf (n : Nat) (z : Sh) (h : Hp) (v0 : Nat) (v1 : Int32) (v2 : Int32) : Option (Int32 × Hp) :=
  if z.K v0 = 12 then
    (pI z h 12 v0 32 0).bind fun h1 =>
    f_X12_runOf_7 n z n h1 v0 v2 v1
  else none
theorem k_X12_runOf {n : Nat} {z : Sh} {h : Hp} {v0 : Nat} {v1 : Int32} {v2 : Int32} {w : Int32 × Hp} (hf : f_X12_runOf n z h v0 v1 v2 = some w) : z.K v0 = 12 := by
  unfold f_X12_runOf at hf
  exact (if_some hf).1
set_option maxHeartbeats 4000000 in
theorem w_X12_runOf_7 {p : Program} {l : Launch} {e : Env} {s : State} {m : MethodId} {args : Array Value} {below : List Frame} {meth : Method} {c : Code} {s0 : State} {E : Ev} {z : Sh} {n : Nat} {r : Int32} {h' : Hp} (G : Gl s0 E) (B : Bd p s0 s E m c cX12_runOf 4 RX12) (hz : s0.heap.size ≤ z.sz) (hc0 : s.heap.size + 0 = z.sz) (hr : meth.sig.returnType = (some .int)) (hlk : meth.locks = false) : ∀ (i : Nat), ∀ (h : Hp) (v0 : Nat) (v2 : Int32) (v3 : Int32) (H : Heap) (locs : List Loc) (ls : Array Slot), Pw s0 s E z h H locs → lv_has ls 4 [(0, .ref v0), (2, .int v2), (3, .int v3)] → f_X12_runOf_7 n z i h v0 v2 v3 = some (r, h') → W p l e (rmO 2 46) s m args below meth c H locs 0 0 (Zt below s0 E z h' (some (.int r)) args s 0 0) (F0 m 7 ls []) := by
  have hx := B.1
  have hb := B.2.1
  intro i
  induction i with
  | zero =>
    intro h v0 v2 v3 H locs ls hw hl hf
    have hf := (f_X12_runOf_7.eq_1 ..).symm.trans hf
    cases hf
  | succ i ih =>
    intro h v0 v2 v3 H locs ls hw hl hf
    have hf := (f_X12_runOf_7.eq_2 ..).symm.trans hf
    refine lv_aload_n hx hb dX12_runOf_7 rfl (lv_at hl 0 rfl) ?_
    refine lv_iload_n hx hb dX12_runOf_8 rfl (lv_at hl 2 rfl) ?_
    refine lv_iload_n hx hb dX12_runOf_9 rfl (lv_at hl 1 rfl) ?_
    obtain ⟨x1, e, hf⟩ := ob hf
    refine q_callV (As := [.int v3, .int v2]) (rest := []) (st1 := [.int x1]) (c_X12_joins G e) B hw hz hc0 (k_X12_joins e) (by decide) (ci := 12) rfl rfl my_X12_joins mv_X12_joins tw_8_146 ⟨Nat.le_of_ble_eq_true rfl, Nat.le_of_ble_eq_true rfl⟩ ⟨Nat.zero_le _, Nat.zero_le _⟩ rfl hl.1 rfl rfl (Nat.le_of_ble_eq_true rfl) dX12_runOf_10 (fun H locs hw => ?_)
    refine lv_iload_n hx hb dX12_runOf_13 rfl (lv_at hl 2 rfl) ?_
    refine lv_icmp_eq (tgt := 37) hx hb dX12_runOf_14 (by decide) (fun c2 => ?_) (fun c2 => ?_)
    · have hf := (if_pos c2).symm.trans hf
      refine lv_iload_n hx hb dX12_runOf_37 rfl (lv_at hl 2 rfl) ?_
      obtain ⟨rfl, rfl⟩ := so2 hf
      exact q_iret B hw hz hc0 hr hlk dX12_runOf_38
    · have hf := (if_neg c2).symm.trans hf
      refine lv_aload_n hx hb dX12_runOf_17 rfl (lv_at hl 0 rfl) ?_
      refine lv_iload_n hx hb dX12_runOf_18 rfl (lv_at hl 2 rfl) ?_
      refine lv_iload_n hx hb dX12_runOf_19 rfl (lv_at hl 1 rfl) ?_
      obtain ⟨x3, e, hf⟩ := ob hf
      refine q_callV (As := [.int v3, .int v2]) (rest := []) (st1 := [.int x3]) (c_X12_joins G e) B hw hz hc0 (k_X12_joins e) (by decide) (ci := 12) rfl rfl my_X12_joins mv_X12_joins tw_8_146 ⟨Nat.le_of_ble_eq_true rfl, Nat.le_of_ble_eq_true rfl⟩ ⟨Nat.zero_le _, Nat.zero_le _⟩ rfl hl.1 rfl rfl (Nat.le_of_ble_eq_true rfl) dX12_runOf_20 (fun H locs hw => ?_)
      refine lv_istore_n (lv' := [(3, .int x3), (0, .ref v0), (2, .int v2)]) hx hb dX12_runOf_23 rfl hl (by decide) rfl (fun ls hl => ?_)
      refine lv_aload_n hx hb dX12_runOf_24 rfl (lv_at hl 1 rfl) ?_
      refine lv_dup hx hb dX12_runOf_25 rfl ?_
      obtain ⟨x4, e, hf⟩ := ob hf
      refine q_getI e B hw fd_12_32.1 fd_12_32.2.1 fd_12_32.2.2.1 fd_12_32.2.2.2.1 fd_12_32.2.2.2.2 rfl tw_6_75 dX12_runOf_26 ?_
      refine lv_iconst (v := 1) hx hb dX12_runOf_29 (by decide) ?_
      refine lv_iadd hx hb dX12_runOf_30 ?_
      obtain ⟨h5, e, hf⟩ := ob hf
      refine q_putI e B hw fd_12_32.1 fd_12_32.2.1 fd_12_32.2.2.1 fd_12_32.2.2.2.1 fd_12_32.2.2.2.2 rfl rfl (tyX12_ok 32 (by decide)) tyX12 tyX12_ok nmX12 tw_6_75 dX12_runOf_31 (fun H locs hw => ?_)
      refine lv_goto (tgt := 7) hx hb dX12_runOf_34 (by decide) ?_
      exact ih h5 v0 v2 x3 _ _ _ hw (lv_sub hl [1, 2, 0] rfl) hf
set_option maxHeartbeats 4000000 in
theorem c_X12_runOf {l : Launch} {s0 : State} {E : Ev} (G : Gl s0 E) {n : Nat} {z : Sh} {h : Hp} {v0 : Nat} {v1 : Int32} {v2 : Int32} {r : Int32} {h' : Hp} (hf : f_X12_runOf n z h v0 v1 v2 = some (r, h')) : Ct l s0 E yX12_runOf cX12_runOf 4 (some .int) 2 46 [.ref v0, .int v1, .int v2] z h h' (some (.int r)) := by
  refine Ct.of G (by decide) (Nat.le_of_ble_eq_true rfl) ?_
  intro p e s m below meth c ls B hw hz hc0 hr hlk hl
  have B : Bd p s0 s E m c cX12_runOf 4 RX12 := B
  have hx := B.1
  have hb := B.2.1
  have hl : lv_has ls 4 [(0, .ref v0), (1, .int v1), (2, .int v2)] := hl
  unfold f_X12_runOf at hf
  obtain ⟨_, hf⟩ := if_some hf
  refine lv_iload_n hx hb dX12_runOf_0 rfl (lv_at hl 1 rfl) ?_
  refine lv_istore_n (lv' := [(3, .int v1), (0, .ref v0), (1, .int v1), (2, .int v2)]) hx hb dX12_runOf_1 rfl hl (by decide) rfl (fun ls hl => ?_)
  refine lv_aload_n hx hb dX12_runOf_2 rfl (lv_at hl 1 rfl) ?_
  refine lv_iconst (v := 0) hx hb dX12_runOf_3 (by decide) ?_
  obtain ⟨h1, e, hf⟩ := ob hf
  refine q_putI e B hw fd_12_32.1 fd_12_32.2.1 fd_12_32.2.2.1 fd_12_32.2.2.2.1 fd_12_32.2.2.2.2 rfl rfl (tyX12_ok 32 (by decide)) tyX12 tyX12_ok nmX12 tw_6_75 dX12_runOf_4 (fun H locs hw => ?_)
  exact w_X12_runOf_7 G B hz hc0 hr hlk  n h1 v0 v2 v1 _ _ _ hw (lv_sub hl [1, 3, 0] rfl) hf
/-! SecondLifeModel.run(I)I -/
def f_X12_run (n : Nat) (z : Sh) (h : Hp) (v0 : Nat) (v1 : Int32) : Option (Int32 × Hp) :=
  if z.K v0 = 12 then
    (pI z h 12 v0 0 0).bind fun h1 =>
    (f_X12_isSet z h1 v0 v1).bind fun x2 =>
    if x2 = 0 then
      some (((-99000003) : Int32), h1)
    else
      (f_X12_runOf n z h1 v0 v1 0).bind fun (x4, h5) =>
      some (x4, h5)
  else none
theorem k_X12_run {n : Nat} {z : Sh} {h : Hp} {v0 : Nat} {v1 : Int32} {w : Int32 × Hp} (hf : f_X12_run n z h v0 v1 = some w) : z.K v0 = 12 := by
  unfold f_X12_run at hf
  exact (if_some hf).1
set_option maxHeartbeats 4000000 in
theorem c_X12_run {l : Launch} {s0 : State} {E : Ev} (G : Gl s0 E) {n : Nat} {z : Sh} {h : Hp} {v0 : Nat} {v1 : Int32} {r : Int32} {h' : Hp} (hf : f_X12_run n z h v0 v1 = some (r, h')) : Ct l s0 E yX12_run cX12_run 2 (some .int) 3 69 [.ref v0, .int v1] z h h' (some (.int r)) := by
  refine Ct.of G (by decide) (Nat.le_of_ble_eq_true rfl) ?_
  intro p e s m below meth c ls B hw hz hc0 hr hlk hl
  have B : Bd p s0 s E m c cX12_run 2 RX12 := B
  have hx := B.1
  have hb := B.2.1
  have hl : lv_has ls 2 [(0, .ref v0), (1, .int v1)] := hl
  unfold f_X12_run at hf
  obtain ⟨_, hf⟩ := if_some hf
  refine lv_aload_n hx hb dX12_run_0 rfl (lv_at hl 0 rfl) ?_
  refine lv_iconst (v := 0) hx hb dX12_run_1 (by decide) ?_
  obtain ⟨h1, e, hf⟩ := ob hf
  refine q_putI e B hw fd_12_0.1 fd_12_0.2.1 fd_12_0.2.2.1 fd_12_0.2.2.2.1 fd_12_0.2.2.2.2 rfl rfl (tyX12_ok 0 (by decide)) tyX12 tyX12_ok nmX12 tw_6_43 dX12_run_2 (fun H locs hw => ?_)
  refine lv_aload_n hx hb dX12_run_5 rfl (lv_at hl 0 rfl) ?_
  refine lv_iload_n hx hb dX12_run_6 rfl (lv_at hl 1 rfl) ?_
  obtain ⟨x2, e, hf⟩ := ob hf
  refine q_callV (As := [.int v1]) (rest := []) (st1 := [.int x2]) (c_X12_isSet G e) B hw hz hc0 (k_X12_isSet e) (by decide) (ci := 12) rfl rfl my_X12_isSet mv_X12_isSet tw_8_138 ⟨Nat.le_of_ble_eq_true rfl, Nat.le_of_ble_eq_true rfl⟩ ⟨Nat.zero_le _, Nat.zero_le _⟩ rfl hl.1 rfl rfl (Nat.le_of_ble_eq_true rfl) dX12_run_7 (fun H locs hw => ?_)
  refine lv_if_eq (tgt := 22) hx hb dX12_run_10 (by decide) (fun c3 => ?_) (fun c3 => ?_)
  · have hf := (if_pos c3).symm.trans hf
    refine lv_ldc hx hb B.2.2.2.1 (B.w tw_6_165 rfl) dX12_run_22 ?_
    obtain ⟨rfl, rfl⟩ := so2 hf
    exact q_iret B hw hz hc0 hr hlk dX12_run_24
  · have hf := (if_neg c3).symm.trans hf
    refine lv_aload_n hx hb dX12_run_13 rfl (lv_at hl 0 rfl) ?_
    refine lv_iload_n hx hb dX12_run_14 rfl (lv_at hl 1 rfl) ?_
    refine lv_iconst (v := 0) hx hb dX12_run_15 (by decide) ?_
    obtain ⟨⟨x4, h5⟩, e, hf⟩ := ob hf
    refine q_callV (As := [.int v1, .int 0]) (rest := []) (st1 := [.int x4]) (c_X12_runOf G e) B hw hz hc0 (k_X12_runOf e) (by decide) (ci := 12) rfl rfl my_X12_runOf mv_X12_runOf tw_8_142 ⟨Nat.le_of_ble_eq_true rfl, Nat.le_of_ble_eq_true rfl⟩ ⟨Nat.zero_le _, Nat.zero_le _⟩ rfl hl.1 rfl rfl (Nat.le_of_ble_eq_true rfl) dX12_run_16 (fun H locs hw => ?_)
    refine lv_goto (tgt := 24) hx hb dX12_run_19 (by decide) ?_
    obtain ⟨rfl, rfl⟩ := so2 hf
    exact q_iret B hw hz hc0 hr hlk dX12_run_24
/-! SecondLifeModel.rounds(I)I -/
def f_X12_rounds (n : Nat) (z : Sh) (h : Hp) (v0 : Nat) (v1 : Int32) : Option (Int32 × Hp) :=
  if z.K v0 = 12 then
    (pI z h 12 v0 0 0).bind fun h1 =>
    (f_X12_isSet z h1 v0 v1).bind fun x2 =>
    if x2 = 0 then
      some (((-99000003) : Int32), h1)
    else
      (f_X12_runOf n z h1 v0 v1 0).bind fun (x4, h5) =>
      (gI z h5 12 v0 32).bind fun x6 =>
      some (x6, h5)
  else none
theorem k_X12_rounds {n : Nat} {z : Sh} {h : Hp} {v0 : Nat} {v1 : Int32} {w : Int32 × Hp} (hf : f_X12_rounds n z h v0 v1 = some w) : z.K v0 = 12 := by
  unfold f_X12_rounds at hf
  exact (if_some hf).1
set_option maxHeartbeats 4000000 in
theorem c_X12_rounds {l : Launch} {s0 : State} {E : Ev} (G : Gl s0 E) {n : Nat} {z : Sh} {h : Hp} {v0 : Nat} {v1 : Int32} {r : Int32} {h' : Hp} (hf : f_X12_rounds n z h v0 v1 = some (r, h')) : Ct l s0 E yX12_rounds cX12_rounds 2 (some .int) 3 69 [.ref v0, .int v1] z h h' (some (.int r)) := by
  refine Ct.of G (by decide) (Nat.le_of_ble_eq_true rfl) ?_
  intro p e s m below meth c ls B hw hz hc0 hr hlk hl
  have B : Bd p s0 s E m c cX12_rounds 2 RX12 := B
  have hx := B.1
  have hb := B.2.1
  have hl : lv_has ls 2 [(0, .ref v0), (1, .int v1)] := hl
  unfold f_X12_rounds at hf
  obtain ⟨_, hf⟩ := if_some hf
  refine lv_aload_n hx hb dX12_rounds_0 rfl (lv_at hl 0 rfl) ?_
  refine lv_iconst (v := 0) hx hb dX12_rounds_1 (by decide) ?_
  obtain ⟨h1, e, hf⟩ := ob hf
  refine q_putI e B hw fd_12_0.1 fd_12_0.2.1 fd_12_0.2.2.1 fd_12_0.2.2.2.1 fd_12_0.2.2.2.2 rfl rfl (tyX12_ok 0 (by decide)) tyX12 tyX12_ok nmX12 tw_6_43 dX12_rounds_2 (fun H locs hw => ?_)
  refine lv_aload_n hx hb dX12_rounds_5 rfl (lv_at hl 0 rfl) ?_
  refine lv_iload_n hx hb dX12_rounds_6 rfl (lv_at hl 1 rfl) ?_
  obtain ⟨x2, e, hf⟩ := ob hf
  refine q_callV (As := [.int v1]) (rest := []) (st1 := [.int x2]) (c_X12_isSet G e) B hw hz hc0 (k_X12_isSet e) (by decide) (ci := 12) rfl rfl my_X12_isSet mv_X12_isSet tw_8_138 ⟨Nat.le_of_ble_eq_true rfl, Nat.le_of_ble_eq_true rfl⟩ ⟨Nat.zero_le _, Nat.zero_le _⟩ rfl hl.1 rfl rfl (Nat.le_of_ble_eq_true rfl) dX12_rounds_7 (fun H locs hw => ?_)
  refine lv_if_ne (tgt := 16) hx hb dX12_rounds_10 (by decide) (fun c3 => ?_) (fun c3 => ?_)
  · have hf := (if_neg c3).symm.trans hf
    refine lv_aload_n hx hb dX12_rounds_16 rfl (lv_at hl 0 rfl) ?_
    refine lv_iload_n hx hb dX12_rounds_17 rfl (lv_at hl 1 rfl) ?_
    refine lv_iconst (v := 0) hx hb dX12_rounds_18 (by decide) ?_
    obtain ⟨⟨x4, h5⟩, e, hf⟩ := ob hf
    refine q_callV (As := [.int v1, .int 0]) (rest := []) (st1 := [.int x4]) (c_X12_runOf G e) B hw hz hc0 (k_X12_runOf e) (by decide) (ci := 12) rfl rfl my_X12_runOf mv_X12_runOf tw_8_142 ⟨Nat.le_of_ble_eq_true rfl, Nat.le_of_ble_eq_true rfl⟩ ⟨Nat.zero_le _, Nat.zero_le _⟩ rfl hl.1 rfl rfl (Nat.le_of_ble_eq_true rfl) dX12_rounds_19 (fun H locs hw => ?_)
    refine lv_pop hx hb dX12_rounds_22 rfl ?_
    refine lv_aload_n hx hb dX12_rounds_23 rfl (lv_at hl 0 rfl) ?_
    obtain ⟨x6, e, hf⟩ := ob hf
    refine q_getI e B hw fd_12_32.1 fd_12_32.2.1 fd_12_32.2.2.1 fd_12_32.2.2.2.1 fd_12_32.2.2.2.2 rfl tw_6_75 dX12_rounds_24 ?_
    obtain ⟨rfl, rfl⟩ := so2 hf
    exact q_iret B hw hz hc0 hr hlk dX12_rounds_27
  · have hf := (if_pos c3).symm.trans hf
    refine lv_ldc hx hb B.2.2.2.1 (B.w tw_6_165 rfl) dX12_rounds_13 ?_
    obtain ⟨rfl, rfl⟩ := so2 hf
    exact q_iret B hw hz hc0 hr hlk dX12_rounds_15
