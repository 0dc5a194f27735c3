/-! SecondLife$Courses.fewestFor(J)I -/
def f_X1_fewestFor_187 (n : Nat)  (z : Sh) (h : Hp) (v3 : Int32) : Option (Int32 × Hp × Sh) :=
  if v3 ≤ 13 then
    some (v3, h, z)
  else
    some (((-1) : Int32), h, z)
def f_X1_fewestFor_181 (n : Nat)  (k34 : Sh → Hp → Nat → Int64 → Int32 → Int32 → Option (Int32 × Hp × Sh)) (z : Sh) (h : Hp) (v0 : Nat) (v1 : Int64) (v3 : Int32) (v4 : Int32) : Option (Int32 × Hp × Sh) :=
  (some (v4 + 1)).bind fun x1 =>
  k34 z h v0 v1 v3 x1
def f_X1_fewestFor_116 (n : Nat)  (k34 : Sh → Hp → Nat → Int64 → Int32 → Int32 → Option (Int32 × Hp × Sh)) : Nat → Sh → Hp → Nat → Int64 → Int32 → Int32 → Int32 → Int32 → Int32 → Int32 → Option (Int32 × Hp × Sh)
  | 0, _, _, _, _, _, _, _, _, _, _ => none
  | i + 1, z, h, v0, v1, v3, v4, v5, v6, v7, v8 =>
    if v7 ≤ v8 then
      (gR z h 1 v0 0).bind fun a2 =>
      (f_X10_afterDrawing z h a2 v4).bind fun x3 =>
      (f_X1_reach z h v0 x3 v5 (v6 + 1)).bind fun h4 =>
      f_X1_fewestFor_181 n k34 z h4 v0 v1 v3 v4
    else
      (gR z h 1 v0 0).bind fun a5 =>
      (f_X10_afterYear z h a5 v4 v8).bind fun x6 =>
      (gR z h 1 v0 0).bind fun a7 =>
      (f_X10_worthOf n z h a7 v4 v8).bind fun (x8, h9, z10) =>
      gd3 z10 <|
      (f_X1_reach z10 h9 v0 x6 (v5 + x8) (v6 + 1)).bind fun h11 =>
      (some (v8 + 1)).bind fun x12 =>
      (f_X1_fewestFor_116 n k34 i) z10 h11 v0 v1 v3 v4 v5 v6 v7 x12
def f_X1_fewestFor_102 (n : Nat)  (k34 : Sh → Hp → Nat → Int64 → Int32 → Int32 → Option (Int32 × Hp × Sh)) (z : Sh) (h : Hp) (v0 : Nat) (v1 : Int64) (v3 : Int32) (v4 : Int32) (v5 : Int32) (v6 : Int32) : Option (Int32 × Hp × Sh) :=
  (gR z h 1 v0 0).bind fun a1 =>
  (f_X10_openTrades z h a1 v4).bind fun x2 =>
  f_X1_fewestFor_116 n k34 n z h v0 v1 v3 v4 v5 v6 x2 0
def f_X1_fewestFor_34 (n : Nat)  : Nat → Sh → Hp → Nat → Int64 → Int32 → Int32 → Option (Int32 × Hp × Sh)
  | 0, _, _, _, _, _, _ => none
  | i + 1, z, h, v0, v1, v3, v4 =>
    if v4 < 0 then
      f_X1_fewestFor_187 n z h v3
    else
      (gR z h 1 v0 2).bind fun a2 =>
      (aL z a2).bind fun x3 =>
      if x3 ≤ v4 then
        f_X1_fewestFor_187 n z h v3
      else
        (gR z h 1 v0 2).bind fun a5 =>
        (ldI z h a5 v4).bind fun x6 =>
        if x6 = (-1000000) then
          f_X1_fewestFor_181 n (f_X1_fewestFor_34 n i) z h v0 v1 v3 v4
        else
          (gR z h 1 v0 3).bind fun a8 =>
          (aL z a8).bind fun x9 =>
          if v4 < x9 then
            (gR z h 1 v0 3).bind fun a11 =>
            (ldI z h a11 v4).bind fun x12 =>
            if (lg_cmp (Int32.toInt64 x6) v1) < 0 then
              f_X1_fewestFor_102 n (f_X1_fewestFor_34 n i) z h v0 v1 v3 v4 x6 x12
            else
              (f_J9_min_7cf53 z h v3 x12).bind fun x14 =>
              f_X1_fewestFor_102 n (f_X1_fewestFor_34 n i) z h v0 v1 x14 v4 x6 x12
          else
            f_X1_fewestFor_181 n (f_X1_fewestFor_34 n i) z h v0 v1 v3 v4
def f_X1_fewestFor (n : Nat) (z : Sh) (h : Hp) (v0 : Nat) (v1 : Int64) : Option (Int32 × Hp × Sh) :=
  if z.K v0 = 1 then
    gd3 z <|
    (gR z h 1 v0 2).bind fun a1 =>
    (f_J7_fill_53178 n z h a1 (-1000000)).bind fun h2 =>
    (gR z h2 1 v0 0).bind fun a3 =>
    (gI z h2 10 a3 8).bind fun x4 =>
    (f_X1_reach z h2 v0 x4 0 0).bind fun h5 =>
    (gR z h5 1 v0 0).bind fun a6 =>
    (gI z h5 10 a6 8).bind fun x7 =>
    f_X1_fewestFor_34 n n z h5 v0 v1 14 x7
  else none
theorem k_X1_fewestFor {n : Nat} {z : Sh} {h : Hp} {v0 : Nat} {v1 : Int64} {w : Int32 × Hp × Sh} (hf : f_X1_fewestFor n z h v0 v1 = some w) : z.K v0 = 1 := by
  unfold f_X1_fewestFor at hf
  exact (if_some hf).1
theorem mo_X1_fewestFor {n : Nat} {z : Sh} {h : Hp} {v0 : Nat} {v1 : Int64} {r : Int32} {h' : Hp} {zE : Sh} (hf : f_X1_fewestFor n z h v0 v1 = some (r, h', zE)) : z.sz ≤ zE.sz ∧ z.sl ≤ zE.sl := by
  unfold f_X1_fewestFor at hf
  exact (gd3_some (if_some hf).2).1
set_option maxHeartbeats 4000000 in
theorem w_X1_fewestFor_187 {p : Program} {l : Launch} {e : Env} {s : State} {m : MethodId} {args : Array Value} {below : List Frame} {meth : Method} {c : Code} {s0 : State} {E : Ev} {z0 : Sh} {n : Nat} {r : Int32} {h' : Hp} {zE : Sh} (G : Gl s0 E) (B : Bd p s0 s E m c cX1_fewestFor 9 RX1) (hr : meth.sig.returnType = (some .int)) (hlk : meth.locks = false) : ∀ (z : Sh) (h : Hp) (v3 : Int32) (H : Heap) (locs : List Loc) (ls : Array Slot), Pw s0 s E z h H locs → Mo s0 s z0 z zE → lv_has ls 9 [(3, .int v3)] → f_X1_fewestFor_187 n z h v3 = some (r, h', zE) → W p l e (rmA 4 96 z0 zE) s m args below meth c H locs (z.sz - z0.sz) (z.sl - z0.sl) (Zt below s0 E zE h' (some (.int r)) args s (zE.sz - z0.sz) (zE.sl - z0.sl)) (F0 m 187 ls []) := by
  have hx := B.1
  have hb := B.2.1
  intro z h v3 H locs ls hw hM hl hf
  unfold f_X1_fewestFor_187 at hf
  refine lv_iload_n hx hb dX1_fewestFor_187 rfl (lv_at hl 0 rfl) ?_
  refine lv_bipush (v := 13) hx hb dX1_fewestFor_188 (by decide) ?_
  refine lv_icmp_le (tgt := 197) hx hb dX1_fewestFor_190 (by decide) (fun c1 => ?_) (fun c1 => ?_)
  · have hf := (if_pos c1).symm.trans hf
    refine lv_iload_n hx hb dX1_fewestFor_197 rfl (lv_at hl 0 rfl) ?_
    obtain ⟨rfl, rfl, rfl⟩ := so3 hf
    exact q_iret B hw hM.hz hM.hc0 hr hlk dX1_fewestFor_198
  · have hf := (if_neg c1).symm.trans hf
    refine lv_iconst (v := (-1)) hx hb dX1_fewestFor_193 (by decide) ?_
    refine lv_goto (tgt := 198) hx hb dX1_fewestFor_194 (by decide) ?_
    obtain ⟨rfl, rfl, rfl⟩ := so3 hf
    exact q_iret B hw hM.hz hM.hc0 hr hlk dX1_fewestFor_198
set_option maxHeartbeats 4000000 in
theorem w_X1_fewestFor_181 {p : Program} {l : Launch} {e : Env} {s : State} {m : MethodId} {args : Array Value} {below : List Frame} {meth : Method} {c : Code} {s0 : State} {E : Ev} {z0 : Sh} {n : Nat} {k34 : Sh → Hp → Nat → Int64 → Int32 → Int32 → Option (Int32 × Hp × Sh)} {r : Int32} {h' : Hp} {zE : Sh} (G : Gl s0 E) (B : Bd p s0 s E m c cX1_fewestFor 9 RX1) (hr : meth.sig.returnType = (some .int)) (hlk : meth.locks = false) (hk34 : ∀ (z : Sh) (h : Hp) (v0 : Nat) (v1 : Int64) (v3 : Int32) (v4 : Int32) (H : Heap) (locs : List Loc) (ls : Array Slot), Pw s0 s E z h H locs → Mo s0 s z0 z zE → lv_has ls 9 [(0, .ref v0), (1, .long v1), (3, .int v3), (4, .int v4)] → k34 z h v0 v1 v3 v4 = some (r, h', zE) → W p l e (rmA 4 96 z0 zE) s m args below meth c H locs (z.sz - z0.sz) (z.sl - z0.sl) (Zt below s0 E zE h' (some (.int r)) args s (zE.sz - z0.sz) (zE.sl - z0.sl)) (F0 m 34 ls [])) : ∀ (z : Sh) (h : Hp) (v0 : Nat) (v1 : Int64) (v3 : Int32) (v4 : Int32) (H : Heap) (locs : List Loc) (ls : Array Slot), Pw s0 s E z h H locs → Mo s0 s z0 z zE → lv_has ls 9 [(0, .ref v0), (1, .long v1), (3, .int v3), (4, .int v4)] → f_X1_fewestFor_181 n k34 z h v0 v1 v3 v4 = some (r, h', zE) → W p l e (rmA 4 96 z0 zE) s m args below meth c H locs (z.sz - z0.sz) (z.sl - z0.sl) (Zt below s0 E zE h' (some (.int r)) args s (zE.sz - z0.sz) (zE.sl - z0.sl)) (F0 m 181 ls []) := by
  have hx := B.1
  have hb := B.2.1
  intro z h v0 v1 v3 v4 H locs ls hw hM hl hf
  unfold f_X1_fewestFor_181 at hf
  obtain ⟨x1, e, hf⟩ := ob hf
  refine lv_iinc (v := x1) (lv' := [(4, .int x1), (0, .ref v0), (1, .long v1), (3, .int v3)]) hx hb dX1_fewestFor_181 hl (k := 3) rfl (Option.some.inj e) (by decide) rfl (fun ls hl => ?_)
  refine lv_goto (tgt := 34) hx hb dX1_fewestFor_184 (by decide) ?_
  exact hk34 z h v0 v1 v3 x1 _ _ _ hw hM (lv_sub hl [1, 2, 3, 0] rfl) hf
set_option maxHeartbeats 4000000 in
theorem w_X1_fewestFor_116 {p : Program} {l : Launch} {e : Env} {s : State} {m : MethodId} {args : Array Value} {below : List Frame} {meth : Method} {c : Code} {s0 : State} {E : Ev} {z0 : Sh} {n : Nat} {k34 : Sh → Hp → Nat → Int64 → Int32 → Int32 → Option (Int32 × Hp × Sh)} {r : Int32} {h' : Hp} {zE : Sh} (G : Gl s0 E) (B : Bd p s0 s E m c cX1_fewestFor 9 RX1) (hr : meth.sig.returnType = (some .int)) (hlk : meth.locks = false) (hk34 : ∀ (z : Sh) (h : Hp) (v0 : Nat) (v1 : Int64) (v3 : Int32) (v4 : Int32) (H : Heap) (locs : List Loc) (ls : Array Slot), Pw s0 s E z h H locs → Mo s0 s z0 z zE → lv_has ls 9 [(0, .ref v0), (1, .long v1), (3, .int v3), (4, .int v4)] → k34 z h v0 v1 v3 v4 = some (r, h', zE) → W p l e (rmA 4 96 z0 zE) s m args below meth c H locs (z.sz - z0.sz) (z.sl - z0.sl) (Zt below s0 E zE h' (some (.int r)) args s (zE.sz - z0.sz) (zE.sl - z0.sl)) (F0 m 34 ls [])) : ∀ (i : Nat), ∀ (z : Sh) (h : Hp) (v0 : Nat) (v1 : Int64) (v3 : Int32) (v4 : Int32) (v5 : Int32) (v6 : Int32) (v7 : Int32) (v8 : Int32) (H : Heap) (locs : List Loc) (ls : Array Slot), Pw s0 s E z h H locs → Mo s0 s z0 z zE → lv_has ls 9 [(0, .ref v0), (1, .long v1), (3, .int v3), (4, .int v4), (5, .int v5), (6, .int v6), (7, .int v7), (8, .int v8)] → f_X1_fewestFor_116 n k34 i z h v0 v1 v3 v4 v5 v6 v7 v8 = some (r, h', zE) → W p l e (rmA 4 96 z0 zE) s m args below meth c H locs (z.sz - z0.sz) (z.sl - z0.sl) (Zt below s0 E zE h' (some (.int r)) args s (zE.sz - z0.sz) (zE.sl - z0.sl)) (F0 m 116 ls []) := by
  have hx := B.1
  have hb := B.2.1
  intro i
  induction i with
  | zero =>
    intro z h v0 v1 v3 v4 v5 v6 v7 v8 H locs ls hw hM hl hf
    have hf := (f_X1_fewestFor_116.eq_1 ..).symm.trans hf
    cases hf
  | succ i ih =>
    intro z h v0 v1 v3 v4 v5 v6 v7 v8 H locs ls hw hM hl hf
    have hf := (f_X1_fewestFor_116.eq_2 ..).symm.trans hf
    refine lv_iload hx hb dX1_fewestFor_116 (lv_at hl 7 rfl) ?_
    refine lv_iload hx hb dX1_fewestFor_118 (lv_at hl 6 rfl) ?_
    refine lv_icmp_ge (tgt := 162) hx hb dX1_fewestFor_120 (by decide) (fun c1 => ?_) (fun c1 => ?_)
    · have hf := (if_pos c1).symm.trans hf
      refine lv_aload_n hx hb dX1_fewestFor_162 rfl (lv_at hl 0 rfl) ?_
      refine lv_aload_n hx hb dX1_fewestFor_163 rfl (lv_at hl 0 rfl) ?_
      obtain ⟨a2, e, hf⟩ := ob hf
      refine q_getR e B hw fd_1_0.1 fd_1_0.2.1 fd_1_0.2.2.1 fd_1_0.2.2.2.1 fd_1_0.2.2.2.2 rfl tw_2_43 dX1_fewestFor_164 ?_
      refine lv_iload hx hb dX1_fewestFor_167 (lv_at hl 3 rfl) ?_
      obtain ⟨x3, e, hf⟩ := ob hf
      refine q_callVN (As := [.int v4]) (rest := [.ref v0]) (st1 := [.int x3, .ref v0]) (c_X10_afterDrawing G e) B hw hM.hz hM.hc0 (k_X10_afterDrawing e) (by decide) (ci := 10) rfl rfl my_X10_afterDrawing mv_X10_afterDrawing tw_4_219 ⟨Nat.le_of_ble_eq_true rfl, Nat.le_of_ble_eq_true rfl⟩ hM.hcs rfl hl.1 rfl rfl (Nat.le_of_ble_eq_true rfl) dX1_fewestFor_169 (fun H locs hw => ?_)
      refine lv_iload hx hb dX1_fewestFor_172 (lv_at hl 4 rfl) ?_
      refine lv_iload hx hb dX1_fewestFor_174 (lv_at hl 5 rfl) ?_
      refine lv_iconst (v := 1) hx hb dX1_fewestFor_176 (by decide) ?_
      refine lv_iadd hx hb dX1_fewestFor_177 ?_
      obtain ⟨h4, e, hf⟩ := ob hf
      refine q_callV (As := [.int x3, .int v5, .int (v6 + 1)]) (rest := []) (st1 := []) (c_X1_reach G e) B hw hM.hz hM.hc0 (k_X1_reach e) (by decide) (ci := 1) rfl rfl my_X1_reach mv_X1_reach tw_5_36 ⟨Nat.le_of_ble_eq_true rfl, Nat.le_of_ble_eq_true rfl⟩ hM.hcs rfl hl.1 rfl rfl (Nat.le_of_ble_eq_true rfl) dX1_fewestFor_178 (fun H locs hw => ?_)
      exact w_X1_fewestFor_181 G B hr hlk hk34 z h4 v0 v1 v3 v4 _ _ _ hw hM (lv_sub hl [0, 1, 2, 3] rfl) hf
    · have hf := (if_neg c1).symm.trans hf
      refine lv_aload_n hx hb dX1_fewestFor_123 rfl (lv_at hl 0 rfl) ?_
      refine lv_aload_n hx hb dX1_fewestFor_124 rfl (lv_at hl 0 rfl) ?_
      obtain ⟨a5, e, hf⟩ := ob hf
      refine q_getR e B hw fd_1_0.1 fd_1_0.2.1 fd_1_0.2.2.1 fd_1_0.2.2.2.1 fd_1_0.2.2.2.2 rfl tw_2_43 dX1_fewestFor_125 ?_
      refine lv_iload hx hb dX1_fewestFor_128 (lv_at hl 3 rfl) ?_
      refine lv_iload hx hb dX1_fewestFor_130 (lv_at hl 7 rfl) ?_
      obtain ⟨x6, e, hf⟩ := ob hf
      refine q_callVN (As := [.int v4, .int v8]) (rest := [.ref v0]) (st1 := [.int x6, .ref v0]) (c_X10_afterYear G e) B hw hM.hz hM.hc0 (k_X10_afterYear e) (by decide) (ci := 10) rfl rfl my_X10_afterYear mv_X10_afterYear tw_4_185 ⟨Nat.le_of_ble_eq_true rfl, Nat.le_of_ble_eq_true rfl⟩ hM.hcs rfl hl.1 rfl rfl (Nat.le_of_ble_eq_true rfl) dX1_fewestFor_132 (fun H locs hw => ?_)
      refine lv_iload hx hb dX1_fewestFor_135 (lv_at hl 4 rfl) ?_
      refine lv_aload_n hx hb dX1_fewestFor_137 rfl (lv_at hl 0 rfl) ?_
      obtain ⟨a7, e, hf⟩ := ob hf
      refine q_getR e B hw fd_1_0.1 fd_1_0.2.1 fd_1_0.2.2.1 fd_1_0.2.2.2.1 fd_1_0.2.2.2.2 rfl tw_2_43 dX1_fewestFor_138 ?_
      refine lv_iload hx hb dX1_fewestFor_141 (lv_at hl 3 rfl) ?_
      refine lv_iload hx hb dX1_fewestFor_143 (lv_at hl 7 rfl) ?_
      obtain ⟨⟨x8, h9, z10⟩, e, hf⟩ := ob hf
      obtain ⟨hg, hf⟩ := gd3_some hf
      refine q_callVNA (As := [.int v4, .int v8]) (rest := [.int v5, .int x6, .ref v0]) (st1 := [.int x8, .int v5, .int x6, .ref v0]) (c_X10_worthOf G e) (mo_X10_worthOf e) hg B hw hM (k_X10_worthOf e) (by decide) (ci := 10) rfl rfl my_X10_worthOf mv_X10_worthOf tw_4_200 ⟨Nat.le_of_ble_eq_true rfl, Nat.le_of_ble_eq_true rfl⟩ rfl hl.1 rfl rfl (Nat.le_of_ble_eq_true rfl) dX1_fewestFor_145 (fun H locs hw hM => ?_)
      refine lv_iadd hx hb dX1_fewestFor_148 ?_
      refine lv_iload hx hb dX1_fewestFor_149 (lv_at hl 5 rfl) ?_
      refine lv_iconst (v := 1) hx hb dX1_fewestFor_151 (by decide) ?_
      refine lv_iadd hx hb dX1_fewestFor_152 ?_
      obtain ⟨h11, e, hf⟩ := ob hf
      refine q_callV (As := [.int x6, .int (v5 + x8), .int (v6 + 1)]) (rest := []) (st1 := []) (c_X1_reach G e) B hw hM.hz hM.hc0 (k_X1_reach e) (by decide) (ci := 1) rfl rfl my_X1_reach mv_X1_reach tw_5_36 ⟨Nat.le_of_ble_eq_true rfl, Nat.le_of_ble_eq_true rfl⟩ hM.hcs rfl hl.1 rfl rfl (Nat.le_of_ble_eq_true rfl) dX1_fewestFor_153 (fun H locs hw => ?_)
      obtain ⟨x12, e, hf⟩ := ob hf
      refine lv_iinc (v := x12) (lv' := [(8, .int x12), (0, .ref v0), (1, .long v1), (3, .int v3), (4, .int v4), (5, .int v5), (6, .int v6), (7, .int v7)]) hx hb dX1_fewestFor_156 hl (k := 7) rfl (Option.some.inj e) (by decide) rfl (fun ls hl => ?_)
      refine lv_goto (tgt := 116) hx hb dX1_fewestFor_159 (by decide) ?_
      exact ih z10 h11 v0 v1 v3 v4 v5 v6 v7 x12 _ _ _ hw hM (lv_sub hl [1, 2, 3, 4, 5, 6, 7, 0] rfl) hf
set_option maxHeartbeats 4000000 in
theorem w_X1_fewestFor_102 {p : Program} {l : Launch} {e : Env} {s : State} {m : MethodId} {args : Array Value} {below : List Frame} {meth : Method} {c : Code} {s0 : State} {E : Ev} {z0 : Sh} {n : Nat} {k34 : Sh → Hp → Nat → Int64 → Int32 → Int32 → Option (Int32 × Hp × Sh)} {r : Int32} {h' : Hp} {zE : Sh} (G : Gl s0 E) (B : Bd p s0 s E m c cX1_fewestFor 9 RX1) (hr : meth.sig.returnType = (some .int)) (hlk : meth.locks = false) (hk34 : ∀ (z : Sh) (h : Hp) (v0 : Nat) (v1 : Int64) (v3 : Int32) (v4 : Int32) (H : Heap) (locs : List Loc) (ls : Array Slot), Pw s0 s E z h H locs → Mo s0 s z0 z zE → lv_has ls 9 [(0, .ref v0), (1, .long v1), (3, .int v3), (4, .int v4)] → k34 z h v0 v1 v3 v4 = some (r, h', zE) → W p l e (rmA 4 96 z0 zE) s m args below meth c H locs (z.sz - z0.sz) (z.sl - z0.sl) (Zt below s0 E zE h' (some (.int r)) args s (zE.sz - z0.sz) (zE.sl - z0.sl)) (F0 m 34 ls [])) : ∀ (z : Sh) (h : Hp) (v0 : Nat) (v1 : Int64) (v3 : Int32) (v4 : Int32) (v5 : Int32) (v6 : Int32) (H : Heap) (locs : List Loc) (ls : Array Slot), Pw s0 s E z h H locs → Mo s0 s z0 z zE → lv_has ls 9 [(0, .ref v0), (1, .long v1), (3, .int v3), (4, .int v4), (5, .int v5), (6, .int v6)] → f_X1_fewestFor_102 n k34 z h v0 v1 v3 v4 v5 v6 = some (r, h', zE) → W p l e (rmA 4 96 z0 zE) s m args below meth c H locs (z.sz - z0.sz) (z.sl - z0.sl) (Zt below s0 E zE h' (some (.int r)) args s (zE.sz - z0.sz) (zE.sl - z0.sl)) (F0 m 102 ls []) := by
  have hx := B.1
  have hb := B.2.1
  intro z h v0 v1 v3 v4 v5 v6 H locs ls hw hM hl hf
  unfold f_X1_fewestFor_102 at hf
  refine lv_aload_n hx hb dX1_fewestFor_102 rfl (lv_at hl 0 rfl) ?_
  obtain ⟨a1, e, hf⟩ := ob hf
  refine q_getR e B hw fd_1_0.1 fd_1_0.2.1 fd_1_0.2.2.1 fd_1_0.2.2.2.1 fd_1_0.2.2.2.2 rfl tw_2_43 dX1_fewestFor_103 ?_
  refine lv_iload hx hb dX1_fewestFor_106 (lv_at hl 3 rfl) ?_
  obtain ⟨x2, e, hf⟩ := ob hf
  refine q_callVN (As := [.int v4]) (rest := []) (st1 := [.int x2]) (c_X10_openTrades G e) B hw hM.hz hM.hc0 (k_X10_openTrades e) (by decide) (ci := 10) rfl rfl my_X10_openTrades mv_X10_openTrades tw_4_178 ⟨Nat.le_of_ble_eq_true rfl, Nat.le_of_ble_eq_true rfl⟩ hM.hcs rfl hl.1 rfl rfl (Nat.le_of_ble_eq_true rfl) dX1_fewestFor_108 (fun H locs hw => ?_)
  refine lv_istore (lv' := [(7, .int x2), (0, .ref v0), (1, .long v1), (3, .int v3), (4, .int v4), (5, .int v5), (6, .int v6)]) hx hb dX1_fewestFor_111 hl (by decide) rfl (fun ls hl => ?_)
  refine lv_iconst (v := 0) hx hb dX1_fewestFor_113 (by decide) ?_
  refine lv_istore (lv' := [(8, .int 0), (7, .int x2), (0, .ref v0), (1, .long v1), (3, .int v3), (4, .int v4), (5, .int v5), (6, .int v6)]) hx hb dX1_fewestFor_114 hl (by decide) rfl (fun ls hl => ?_)
  exact w_X1_fewestFor_116 G B hr hlk hk34 n z h v0 v1 v3 v4 v5 v6 x2 0 _ _ _ hw hM (lv_sub hl [2, 3, 4, 5, 6, 7, 1, 0] rfl) hf
set_option maxHeartbeats 4000000 in
theorem w_X1_fewestFor_34 {p : Program} {l : Launch} {e : Env} {s : State} {m : MethodId} {args : Array Value} {below : List Frame} {meth : Method} {c : Code} {s0 : State} {E : Ev} {z0 : Sh} {n : Nat} {r : Int32} {h' : Hp} {zE : Sh} (G : Gl s0 E) (B : Bd p s0 s E m c cX1_fewestFor 9 RX1) (hr : meth.sig.returnType = (some .int)) (hlk : meth.locks = false) : ∀ (i : Nat), ∀ (z : Sh) (h : Hp) (v0 : Nat) (v1 : Int64) (v3 : Int32) (v4 : Int32) (H : Heap) (locs : List Loc) (ls : Array Slot), Pw s0 s E z h H locs → Mo s0 s z0 z zE → lv_has ls 9 [(0, .ref v0), (1, .long v1), (3, .int v3), (4, .int v4)] → f_X1_fewestFor_34 n i z h v0 v1 v3 v4 = some (r, h', zE) → W p l e (rmA 4 96 z0 zE) s m args below meth c H locs (z.sz - z0.sz) (z.sl - z0.sl) (Zt below s0 E zE h' (some (.int r)) args s (zE.sz - z0.sz) (zE.sl - z0.sl)) (F0 m 34 ls []) := by
  have hx := B.1
  have hb := B.2.1
  intro i
  induction i with
  | zero =>
    intro z h v0 v1 v3 v4 H locs ls hw hM hl hf
    have hf := (f_X1_fewestFor_34.eq_1 ..).symm.trans hf
    cases hf
  | succ i ih =>
    intro z h v0 v1 v3 v4 H locs ls hw hM hl hf
    have hf := (f_X1_fewestFor_34.eq_2 ..).symm.trans hf
    refine lv_iload hx hb dX1_fewestFor_34 (lv_at hl 3 rfl) ?_
    refine lv_if_lt (tgt := 187) hx hb dX1_fewestFor_36 (by decide) (fun c1 => ?_) (fun c1 => ?_)
    · have hf := (if_pos c1).symm.trans hf
      exact w_X1_fewestFor_187 G B hr hlk  z h v3 _ _ _ hw hM (lv_sub hl [2] rfl) hf
    · have hf := (if_neg c1).symm.trans hf
      refine lv_iload hx hb dX1_fewestFor_39 (lv_at hl 3 rfl) ?_
      refine lv_aload_n hx hb dX1_fewestFor_41 rfl (lv_at hl 0 rfl) ?_
      obtain ⟨a2, e, hf⟩ := ob hf
      refine q_getR e B hw fd_1_2.1 fd_1_2.2.1 fd_1_2.2.2.1 fd_1_2.2.2.2.1 fd_1_2.2.2.2.2 rfl tw_2_45 dX1_fewestFor_42 ?_
      obtain ⟨x3, e, hf⟩ := ob hf
      refine q_len e B hw dX1_fewestFor_45 ?_
      refine lv_icmp_ge (tgt := 187) hx hb dX1_fewestFor_46 (by decide) (fun c4 => ?_) (fun c4 => ?_)
      · have hf := (if_pos c4).symm.trans hf
        exact w_X1_fewestFor_187 G B hr hlk  z h v3 _ _ _ hw hM (lv_sub hl [2] rfl) hf
      · have hf := (if_neg c4).symm.trans hf
        refine lv_aload_n hx hb dX1_fewestFor_49 rfl (lv_at hl 0 rfl) ?_
        obtain ⟨a5, e, hf⟩ := ob hf
        refine q_getR e B hw fd_1_2.1 fd_1_2.2.1 fd_1_2.2.2.1 fd_1_2.2.2.2.1 fd_1_2.2.2.2.2 rfl tw_2_45 dX1_fewestFor_50 ?_
        refine lv_iload hx hb dX1_fewestFor_53 (lv_at hl 3 rfl) ?_
        obtain ⟨x6, e, hf⟩ := ob hf
        refine q_ldI e B hw dX1_fewestFor_55 ?_
        refine lv_istore (lv' := [(5, .int x6), (0, .ref v0), (1, .long v1), (3, .int v3), (4, .int v4)]) hx hb dX1_fewestFor_56 hl (by decide) rfl (fun ls hl => ?_)
        refine lv_iload hx hb dX1_fewestFor_58 (lv_at hl 0 rfl) ?_
        refine lv_ldc hx hb B.2.2.2.1 (B.w tw_5_34 rfl) dX1_fewestFor_60 ?_
        refine lv_icmp_eq (tgt := 181) hx hb dX1_fewestFor_62 (by decide) (fun c7 => ?_) (fun c7 => ?_)
        · have hf := (if_pos c7).symm.trans hf
          exact w_X1_fewestFor_181 G B hr hlk ih z h v0 v1 v3 v4 _ _ _ hw hM (lv_sub hl [1, 2, 3, 4] rfl) hf
        · have hf := (if_neg c7).symm.trans hf
          refine lv_iload hx hb dX1_fewestFor_65 (lv_at hl 4 rfl) ?_
          refine lv_aload_n hx hb dX1_fewestFor_67 rfl (lv_at hl 1 rfl) ?_
          obtain ⟨a8, e, hf⟩ := ob hf
          refine q_getR e B hw fd_1_3.1 fd_1_3.2.1 fd_1_3.2.2.1 fd_1_3.2.2.2.1 fd_1_3.2.2.2.2 rfl tw_2_46 dX1_fewestFor_68 ?_
          obtain ⟨x9, e, hf⟩ := ob hf
          refine q_len e B hw dX1_fewestFor_71 ?_
          refine lv_icmp_lt (tgt := 78) hx hb dX1_fewestFor_72 (by decide) (fun c10 => ?_) (fun c10 => ?_)
          · have hf := (if_pos c10).symm.trans hf
            refine lv_aload_n hx hb dX1_fewestFor_78 rfl (lv_at hl 1 rfl) ?_
            obtain ⟨a11, e, hf⟩ := ob hf
            refine q_getR e B hw fd_1_3.1 fd_1_3.2.1 fd_1_3.2.2.1 fd_1_3.2.2.2.1 fd_1_3.2.2.2.2 rfl tw_2_46 dX1_fewestFor_79 ?_
            refine lv_iload hx hb dX1_fewestFor_82 (lv_at hl 4 rfl) ?_
            obtain ⟨x12, e, hf⟩ := ob hf
            refine q_ldI e B hw dX1_fewestFor_84 ?_
            refine lv_istore (lv' := [(6, .int x12), (5, .int x6), (0, .ref v0), (1, .long v1), (3, .int v3), (4, .int v4)]) hx hb dX1_fewestFor_85 hl (by decide) rfl (fun ls hl => ?_)
            refine lv_iload hx hb dX1_fewestFor_87 (lv_at hl 1 rfl) ?_
            refine lv_i2l (v := (Int32.toInt64 x6)) hx hb dX1_fewestFor_89 rfl ?_
            refine lv_lload_n hx hb dX1_fewestFor_90 rfl (lv_at hl 3 rfl) ?_
            refine W.lcmp hx hb dX1_fewestFor_91 ?_
            refine lv_if_lt (tgt := 102) hx hb dX1_fewestFor_92 (by decide) (fun c13 => ?_) (fun c13 => ?_)
            · have hf := (if_pos c13).symm.trans hf
              exact w_X1_fewestFor_102 G B hr hlk ih z h v0 v1 v3 v4 x6 x12 _ _ _ hw hM (lv_sub hl [2, 3, 4, 5, 1, 0] rfl) hf
            · have hf := (if_neg c13).symm.trans hf
              refine lv_iload_n hx hb dX1_fewestFor_95 rfl (lv_at hl 4 rfl) ?_
              refine lv_iload hx hb dX1_fewestFor_96 (lv_at hl 0 rfl) ?_
              obtain ⟨x14, e, hf⟩ := ob hf
              refine q_callS (As := [.int v3, .int x12]) (rest := []) (st1 := [.int x14]) (c_J9_min_7cf53 G e) B hw hM.hz hM.hc0 my_J9_min_7cf53 mv_J9_min_7cf53 tw_5_41 ⟨Nat.le_of_ble_eq_true rfl, Nat.le_of_ble_eq_true rfl⟩ hM.hcs rfl hl.1 rfl rfl (Nat.le_of_ble_eq_true rfl) dX1_fewestFor_98 (fun H locs hw => ?_)
              refine lv_istore_n (lv' := [(3, .int x14), (6, .int x12), (5, .int x6), (0, .ref v0), (1, .long v1), (4, .int v4)]) hx hb dX1_fewestFor_101 rfl hl (by decide) rfl (fun ls hl => ?_)
              exact w_X1_fewestFor_102 G B hr hlk ih z h v0 v1 x14 v4 x6 x12 _ _ _ hw hM (lv_sub hl [3, 4, 0, 5, 2, 1] rfl) hf
          · have hf := (if_neg c10).symm.trans hf
            refine lv_goto (tgt := 181) hx hb dX1_fewestFor_75 (by decide) ?_
            exact w_X1_fewestFor_181 G B hr hlk ih z h v0 v1 v3 v4 _ _ _ hw hM (lv_sub hl [1, 2, 3, 4] rfl) hf
set_option maxHeartbeats 4000000 in
theorem c_X1_fewestFor {l : Launch} {s0 : State} {E : Ev} (G : Gl s0 E) {n : Nat} {z : Sh} {h : Hp} {v0 : Nat} {v1 : Int64} {r : Int32} {h' : Hp} {zE : Sh} (hf : f_X1_fewestFor n z h v0 v1 = some (r, h', zE)) : Ca l s0 E yX1_fewestFor cX1_fewestFor 9 (some .int) 4 96 [.ref v0, .long v1] z zE h h' (some (.int r)) := by
  refine Ca.of G (by decide +kernel) (Nat.le_of_ble_eq_true rfl) (mo_X1_fewestFor hf) ?_
  intro p e s m below meth c ls B hw hM hr hlk hnm0 hl
  have B : Bd p s0 s E m c cX1_fewestFor 9 RX1 := B
  have hx := B.1
  have hb := B.2.1
  have hl : lv_has ls 9 [(0, .ref v0), (1, .long v1)] := hl
  unfold f_X1_fewestFor at hf
  obtain ⟨_, hf⟩ := if_some hf
  obtain ⟨_, hf⟩ := gd3_some hf
  refine lv_aload_n hx hb dX1_fewestFor_0 rfl (lv_at hl 0 rfl) ?_
  obtain ⟨a1, e, hf⟩ := ob hf
  refine q_getR e B hw fd_1_2.1 fd_1_2.2.1 fd_1_2.2.2.1 fd_1_2.2.2.2.1 fd_1_2.2.2.2.2 rfl tw_2_45 dX1_fewestFor_1 ?_
  refine lv_ldc hx hb B.2.2.2.1 (B.w tw_5_34 rfl) dX1_fewestFor_4 ?_
  obtain ⟨h2, e, hf⟩ := ob hf
  refine q_callS (As := [.ref a1, .int (-1000000)]) (rest := []) (st1 := []) (c_J7_fill_53178 G e) B hw hM.hz hM.hc0 my_J7_fill_53178 mv_J7_fill_53178 tw_5_35 ⟨Nat.le_of_ble_eq_true rfl, Nat.le_of_ble_eq_true rfl⟩ hM.hcs rfl hl.1 rfl rfl (Nat.le_of_ble_eq_true rfl) dX1_fewestFor_6 (fun H locs hw => ?_)
  refine lv_aload_n hx hb dX1_fewestFor_9 rfl (lv_at hl 0 rfl) ?_
  refine lv_aload_n hx hb dX1_fewestFor_10 rfl (lv_at hl 0 rfl) ?_
  obtain ⟨a3, e, hf⟩ := ob hf
  refine q_getR e B hw fd_1_0.1 fd_1_0.2.1 fd_1_0.2.2.1 fd_1_0.2.2.2.1 fd_1_0.2.2.2.2 rfl tw_2_43 dX1_fewestFor_11 ?_
  obtain ⟨x4, e, hf⟩ := ob hf
  refine q_getIN e B hw fd_10_8.1 fd_10_8.2.1 fd_10_8.2.2.1 fd_10_8.2.2.2.1 fd_10_8.2.2.2.2 rfl tw_2_2 dX1_fewestFor_14 ?_
  refine lv_iconst (v := 0) hx hb dX1_fewestFor_17 (by decide) ?_
  refine lv_iconst (v := 0) hx hb dX1_fewestFor_18 (by decide) ?_
  obtain ⟨h5, e, hf⟩ := ob hf
  refine q_callV (As := [.int x4, .int 0, .int 0]) (rest := []) (st1 := []) (c_X1_reach G e) B hw hM.hz hM.hc0 (k_X1_reach e) (by decide) (ci := 1) rfl rfl my_X1_reach mv_X1_reach tw_5_36 ⟨Nat.le_of_ble_eq_true rfl, Nat.le_of_ble_eq_true rfl⟩ hM.hcs rfl hl.1 rfl rfl (Nat.le_of_ble_eq_true rfl) dX1_fewestFor_19 (fun H locs hw => ?_)
  refine lv_bipush (v := 14) hx hb dX1_fewestFor_22 (by decide) ?_
  refine lv_istore_n (lv' := [(3, .int 14), (0, .ref v0), (1, .long v1)]) hx hb dX1_fewestFor_24 rfl hl (by decide) rfl (fun ls hl => ?_)
  refine lv_aload_n hx hb dX1_fewestFor_25 rfl (lv_at hl 1 rfl) ?_
  obtain ⟨a6, e, hf⟩ := ob hf
  refine q_getR e B hw fd_1_0.1 fd_1_0.2.1 fd_1_0.2.2.1 fd_1_0.2.2.2.1 fd_1_0.2.2.2.2 rfl tw_2_43 dX1_fewestFor_26 ?_
  obtain ⟨x7, e, hf⟩ := ob hf
  refine q_getIN e B hw fd_10_8.1 fd_10_8.2.1 fd_10_8.2.2.1 fd_10_8.2.2.2.1 fd_10_8.2.2.2.2 rfl tw_2_2 dX1_fewestFor_29 ?_
  refine lv_istore (lv' := [(4, .int x7), (3, .int 14), (0, .ref v0), (1, .long v1)]) hx hb dX1_fewestFor_32 hl (by decide) rfl (fun ls hl => ?_)
  exact w_X1_fewestFor_34 G B hr hlk  n z h5 v0 v1 14 x7 _ _ _ hw hM (lv_sub hl [2, 3, 1, 0] rfl) hf
/-! SecondLife$Deeds.lives(LSecondLife$Town;LSecondLife$People;IJ)I -/
def f_X2_lives_117 (n : Nat) (z : Sh) (h : Hp) (v2 : Nat) (v3 : Int32) (v6 : Int32) (v7 : Int32) (u0 : Int32) (u1 : Int32) (u2 : Int32) (u3 : Nat) : Option (Int32 × Hp) :=
  (f_X5_put z h u3 u2 u1 u0).bind fun h1 =>
  (f_X5_put z h1 v2 v3 3 v7).bind fun h2 =>
  (f_X5_put z h2 v2 v3 0 (v6 + 1)).bind fun h3 =>
  some ((0 : Int32), h3)
def f_X2_lives_80 (n : Nat) (z : Sh) (h : Hp) (v2 : Nat) (v3 : Int32) (v6 : Int32) (v7 : Int32) (v8 : Int32) (u0 : Int32) : Option (Int32 × Hp) :=
  (f_X5_part z h v2 v3 2).bind fun x1 =>
  (f_X5_put z h v2 v3 2 (x1 + v8)).bind fun h2 =>
  if u0 = 0 then
    f_X2_lives_117 n z h2 v2 v3 v6 v7 1 4 v3 v2
  else
    (f_X5_part z h2 v2 v3 4).bind fun x4 =>
    f_X2_lives_117 n z h2 v2 v3 v6 v7 (x4 + 1) 4 v3 v2
def f_X2_lives (n : Nat) (z : Sh) (h : Hp) (v0 : Nat) (v1 : Nat) (v2 : Nat) (v3 : Int32) (v4 : Int64) : Option (Int32 × Hp) :=
  if z.K v0 = 2 then
    (f_X5_has z h v2 v3).bind fun x1 =>
    if x1 = 0 then
      some ((1 : Int32), h)
    else
      (f_X8_hasTrade z h v1 v4).bind fun x3 =>
      if x3 = 0 then
        some ((1 : Int32), h)
      else
        (f_X5_part z h v2 v3 0).bind fun x5 =>
        (gI z h 8 v1 0).bind fun x6 =>
        if x5 < x6 then
          (some (Int64.toInt32 v4)).bind fun x8 =>
          (gR z h 2 v0 0).bind fun a9 =>
          (f_X7_about z h a9 v2 v3).bind fun h10 =>
          (gR z h10 2 v0 0).bind fun a11 =>
          (f_X7_worthOf n z h10 a11 v1 x8).bind fun (x12, h13) =>
          (f_X5_part z h13 v2 v3 3).bind fun x14 =>
          if x14 = x8 then
            f_X2_lives_80 n z h13 v2 v3 x5 x8 x12 1
          else
            f_X2_lives_80 n z h13 v2 v3 x5 x8 x12 0
        else
          some ((2 : Int32), h)
  else none
theorem k_X2_lives {n : Nat} {z : Sh} {h : Hp} {v0 : Nat} {v1 : Nat} {v2 : Nat} {v3 : Int32} {v4 : Int64} {w : Int32 × Hp} (hf : f_X2_lives n z h v0 v1 v2 v3 v4 = some w) : z.K v0 = 2 := by
  unfold f_X2_lives at hf
  exact (if_some hf).1
set_option maxHeartbeats 4000000 in
theorem w_X2_lives_117 {p : Program} {l : Launch} {e : Env} {s : State} {m : MethodId} {args : Array Value} {below : List Frame} {meth : Method} {c : Code} {s0 : State} {E : Ev} {z : Sh} {n : Nat} {r : Int32} {h' : Hp} (G : Gl s0 E) (B : Bd p s0 s E m c cX2_lives 10 RX2) (hz : s0.heap.size ≤ z.sz) (hc0 : s.heap.size + 0 = z.sz) (hr : meth.sig.returnType = (some .int)) (hlk : meth.locks = false) : ∀ (h : Hp) (v2 : Nat) (v3 : Int32) (v6 : Int32) (v7 : Int32) (u0 : Int32) (u1 : Int32) (u2 : Int32) (u3 : Nat) (H : Heap) (locs : List Loc) (ls : Array Slot), Pw s0 s E z h H locs → lv_has ls 10 [(2, .ref v2), (3, .int v3), (6, .int v6), (7, .int v7)] → f_X2_lives_117 n z h v2 v3 v6 v7 u0 u1 u2 u3 = some (r, h') → W p l e (rmO 3 70) s m args below meth c H locs 0 0 (Zt below s0 E z h' (some (.int r)) args s 0 0) (F0 m 117 ls [.int u0, .int u1, .int u2, .ref u3]) := by
  have hx := B.1
  have hb := B.2.1
  intro h v2 v3 v6 v7 u0 u1 u2 u3 H locs ls hw hl hf
  unfold f_X2_lives_117 at hf
  obtain ⟨h1, e, hf⟩ := ob hf
  refine q_callVN (As := [.int u2, .int u1, .int u0]) (rest := []) (st1 := []) (c_X5_put G e) B hw hz hc0 (k_X5_put e) (by decide) (ci := 5) rfl rfl my_X5_put mv_X5_put tw_4_39 ⟨Nat.le_of_ble_eq_true rfl, Nat.le_of_ble_eq_true rfl⟩ ⟨Nat.zero_le _, Nat.zero_le _⟩ rfl hl.1 rfl rfl (Nat.le_of_ble_eq_true rfl) dX2_lives_117 (fun H locs hw => ?_)
  refine lv_aload_n hx hb dX2_lives_120 rfl (lv_at hl 0 rfl) ?_
  refine lv_iload_n hx hb dX2_lives_121 rfl (lv_at hl 1 rfl) ?_
  refine lv_iconst (v := 3) hx hb dX2_lives_122 (by decide) ?_
  refine lv_iload hx hb dX2_lives_123 (lv_at hl 3 rfl) ?_
  obtain ⟨h2, e, hf⟩ := ob hf
  refine q_callVN (As := [.int v3, .int 3, .int v7]) (rest := []) (st1 := []) (c_X5_put G e) B hw hz hc0 (k_X5_put e) (by decide) (ci := 5) rfl rfl my_X5_put mv_X5_put tw_4_39 ⟨Nat.le_of_ble_eq_true rfl, Nat.le_of_ble_eq_true rfl⟩ ⟨Nat.zero_le _, Nat.zero_le _⟩ rfl hl.1 rfl rfl (Nat.le_of_ble_eq_true rfl) dX2_lives_125 (fun H locs hw => ?_)
  refine lv_aload_n hx hb dX2_lives_128 rfl (lv_at hl 0 rfl) ?_
  refine lv_iload_n hx hb dX2_lives_129 rfl (lv_at hl 1 rfl) ?_
  refine lv_iconst (v := 0) hx hb dX2_lives_130 (by decide) ?_
  refine lv_iload hx hb dX2_lives_131 (lv_at hl 2 rfl) ?_
  refine lv_iconst (v := 1) hx hb dX2_lives_133 (by decide) ?_
  refine lv_iadd hx hb dX2_lives_134 ?_
  obtain ⟨h3, e, hf⟩ := ob hf
  refine q_callVN (As := [.int v3, .int 0, .int (v6 + 1)]) (rest := []) (st1 := []) (c_X5_put G e) B hw hz hc0 (k_X5_put e) (by decide) (ci := 5) rfl rfl my_X5_put mv_X5_put tw_4_39 ⟨Nat.le_of_ble_eq_true rfl, Nat.le_of_ble_eq_true rfl⟩ ⟨Nat.zero_le _, Nat.zero_le _⟩ rfl hl.1 rfl rfl (Nat.le_of_ble_eq_true rfl) dX2_lives_135 (fun H locs hw => ?_)
  refine lv_iconst (v := 0) hx hb dX2_lives_138 (by decide) ?_
  obtain ⟨rfl, rfl⟩ := so2 hf
  exact q_iret B hw hz hc0 hr hlk dX2_lives_139
set_option maxHeartbeats 4000000 in
theorem w_X2_lives_80 {p : Program} {l : Launch} {e : Env} {s : State} {m : MethodId} {args : Array Value} {below : List Frame} {meth : Method} {c : Code} {s0 : State} {E : Ev} {z : Sh} {n : Nat} {r : Int32} {h' : Hp} (G : Gl s0 E) (B : Bd p s0 s E m c cX2_lives 10 RX2) (hz : s0.heap.size ≤ z.sz) (hc0 : s.heap.size + 0 = z.sz) (hr : meth.sig.returnType = (some .int)) (hlk : meth.locks = false) : ∀ (h : Hp) (v2 : Nat) (v3 : Int32) (v6 : Int32) (v7 : Int32) (v8 : Int32) (u0 : Int32) (H : Heap) (locs : List Loc) (ls : Array Slot), Pw s0 s E z h H locs → lv_has ls 10 [(2, .ref v2), (3, .int v3), (6, .int v6), (7, .int v7), (8, .int v8)] → f_X2_lives_80 n z h v2 v3 v6 v7 v8 u0 = some (r, h') → W p l e (rmO 3 70) s m args below meth c H locs 0 0 (Zt below s0 E z h' (some (.int r)) args s 0 0) (F0 m 80 ls [.int u0]) := by
  have hx := B.1
  have hb := B.2.1
  intro h v2 v3 v6 v7 v8 u0 H locs ls hw hl hf
  unfold f_X2_lives_80 at hf
  refine lv_istore (lv' := [(9, .int u0), (2, .ref v2), (3, .int v3), (6, .int v6), (7, .int v7), (8, .int v8)]) hx hb dX2_lives_80 hl (by decide) rfl (fun ls hl => ?_)
  refine lv_aload_n hx hb dX2_lives_82 rfl (lv_at hl 1 rfl) ?_
  refine lv_iload_n hx hb dX2_lives_83 rfl (lv_at hl 2 rfl) ?_
  refine lv_iconst (v := 2) hx hb dX2_lives_84 (by decide) ?_
  refine lv_aload_n hx hb dX2_lives_85 rfl (lv_at hl 1 rfl) ?_
  refine lv_iload_n hx hb dX2_lives_86 rfl (lv_at hl 2 rfl) ?_
  refine lv_iconst (v := 2) hx hb dX2_lives_87 (by decide) ?_
  obtain ⟨x1, e, hf⟩ := ob hf
  refine q_callVN (As := [.int v3, .int 2]) (rest := [.int 2, .int v3, .ref v2]) (st1 := [.int x1, .int 2, .int v3, .ref v2]) (c_X5_part G e) B hw hz hc0 (k_X5_part e) (by decide) (ci := 5) rfl rfl my_X5_part mv_X5_part tw_4_36 ⟨Nat.le_of_ble_eq_true rfl, Nat.le_of_ble_eq_true rfl⟩ ⟨Nat.zero_le _, Nat.zero_le _⟩ rfl hl.1 rfl rfl (Nat.le_of_ble_eq_true rfl) dX2_lives_88 (fun H locs hw => ?_)
  refine lv_iload hx hb dX2_lives_91 (lv_at hl 5 rfl) ?_
  refine lv_iadd hx hb dX2_lives_93 ?_
  obtain ⟨h2, e, hf⟩ := ob hf
  refine q_callVN (As := [.int v3, .int 2, .int (x1 + v8)]) (rest := []) (st1 := []) (c_X5_put G e) B hw hz hc0 (k_X5_put e) (by decide) (ci := 5) rfl rfl my_X5_put mv_X5_put tw_4_39 ⟨Nat.le_of_ble_eq_true rfl, Nat.le_of_ble_eq_true rfl⟩ ⟨Nat.zero_le _, Nat.zero_le _⟩ rfl hl.1 rfl rfl (Nat.le_of_ble_eq_true rfl) dX2_lives_94 (fun H locs hw => ?_)
  refine lv_aload_n hx hb dX2_lives_97 rfl (lv_at hl 1 rfl) ?_
  refine lv_iload_n hx hb dX2_lives_98 rfl (lv_at hl 2 rfl) ?_
  refine lv_iconst (v := 4) hx hb dX2_lives_99 (by decide) ?_
  refine lv_iload hx hb dX2_lives_100 (lv_at hl 0 rfl) ?_
  refine lv_if_eq (tgt := 116) hx hb dX2_lives_102 (by decide) (fun c3 => ?_) (fun c3 => ?_)
  · have hf := (if_pos c3).symm.trans hf
    refine lv_iconst (v := 1) hx hb dX2_lives_116 (by decide) ?_
    exact w_X2_lives_117 G B hz hc0 hr hlk  h2 v2 v3 v6 v7 1 4 v3 v2 _ _ _ hw (lv_sub hl [1, 2, 3, 4] rfl) hf
  · have hf := (if_neg c3).symm.trans hf
    refine lv_aload_n hx hb dX2_lives_105 rfl (lv_at hl 1 rfl) ?_
    refine lv_iload_n hx hb dX2_lives_106 rfl (lv_at hl 2 rfl) ?_
    refine lv_iconst (v := 4) hx hb dX2_lives_107 (by decide) ?_
    obtain ⟨x4, e, hf⟩ := ob hf
    refine q_callVN (As := [.int v3, .int 4]) (rest := [.int 4, .int v3, .ref v2]) (st1 := [.int x4, .int 4, .int v3, .ref v2]) (c_X5_part G e) B hw hz hc0 (k_X5_part e) (by decide) (ci := 5) rfl rfl my_X5_part mv_X5_part tw_4_36 ⟨Nat.le_of_ble_eq_true rfl, Nat.le_of_ble_eq_true rfl⟩ ⟨Nat.zero_le _, Nat.zero_le _⟩ rfl hl.1 rfl rfl (Nat.le_of_ble_eq_true rfl) dX2_lives_108 (fun H locs hw => ?_)
    refine lv_iconst (v := 1) hx hb dX2_lives_111 (by decide) ?_
    refine lv_iadd hx hb dX2_lives_112 ?_
    refine lv_goto (tgt := 117) hx hb dX2_lives_113 (by decide) ?_
    exact w_X2_lives_117 G B hz hc0 hr hlk  h2 v2 v3 v6 v7 (x4 + 1) 4 v3 v2 _ _ _ hw (lv_sub hl [1, 2, 3, 4] rfl) hf
set_option maxHeartbeats 4000000 in
theorem c_X2_lives {l : Launch} {s0 : State} {E : Ev} (G : Gl s0 E) {n : Nat} {z : Sh} {h : Hp} {v0 : Nat} {v1 : Nat} {v2 : Nat} {v3 : Int32} {v4 : Int64} {r : Int32} {h' : Hp} (hf : f_X2_lives n z h v0 v1 v2 v3 v4 = some (r, h')) : Ct l s0 E yX2_lives cX2_lives 10 (some .int) 3 70 [.ref v0, .ref v1, .ref v2, .int v3, .long v4] z h h' (some (.int r)) := by
  refine Ct.of G (by decide) (Nat.le_of_ble_eq_true rfl) ?_
  intro p e s m below meth c ls B hw hz hc0 hr hlk hl
  have B : Bd p s0 s E m c cX2_lives 10 RX2 := B
  have hx := B.1
  have hb := B.2.1
  have hl : lv_has ls 10 [(0, .ref v0), (1, .ref v1), (2, .ref v2), (3, .int v3), (4, .long v4)] := hl
  unfold f_X2_lives at hf
  obtain ⟨_, hf⟩ := if_some hf
  refine lv_aload_n hx hb dX2_lives_0 rfl (lv_at hl 2 rfl) ?_
  refine lv_iload_n hx hb dX2_lives_1 rfl (lv_at hl 3 rfl) ?_
  obtain ⟨x1, e, hf⟩ := ob hf
  refine q_callVN (As := [.int v3]) (rest := []) (st1 := [.int x1]) (c_X5_has G e) B hw hz hc0 (k_X5_has e) (by decide) (ci := 5) rfl rfl my_X5_has mv_X5_has tw_4_34 ⟨Nat.le_of_ble_eq_true rfl, Nat.le_of_ble_eq_true rfl⟩ ⟨Nat.zero_le _, Nat.zero_le _⟩ rfl hl.1 rfl rfl (Nat.le_of_ble_eq_true rfl) dX2_lives_2 (fun H locs hw => ?_)
  refine lv_if_eq (tgt := 17) hx hb dX2_lives_5 (by decide) (fun c2 => ?_) (fun c2 => ?_)
  · have hf := (if_pos c2).symm.trans hf
    refine lv_iconst (v := 1) hx hb dX2_lives_17 (by decide) ?_
    obtain ⟨rfl, rfl⟩ := so2 hf
    exact q_iret B hw hz hc0 hr hlk dX2_lives_18
  · have hf := (if_neg c2).symm.trans hf
    refine lv_aload_n hx hb dX2_lives_8 rfl (lv_at hl 1 rfl) ?_
    refine lv_lload hx hb dX2_lives_9 (lv_at hl 4 rfl) ?_
    obtain ⟨x3, e, hf⟩ := ob hf
    refine q_callVN (As := [.long v4]) (rest := []) (st1 := [.int x3]) (c_X8_hasTrade G e) B hw hz hc0 (k_X8_hasTrade e) (by decide) (ci := 8) rfl rfl my_X8_hasTrade mv_X8_hasTrade tw_4_35 ⟨Nat.le_of_ble_eq_true rfl, Nat.le_of_ble_eq_true rfl⟩ ⟨Nat.zero_le _, Nat.zero_le _⟩ rfl hl.1 rfl rfl (Nat.le_of_ble_eq_true rfl) dX2_lives_11 (fun H locs hw => ?_)
    refine lv_if_ne (tgt := 19) hx hb dX2_lives_14 (by decide) (fun c4 => ?_) (fun c4 => ?_)
    · have hf := (if_neg c4).symm.trans hf
      refine lv_aload_n hx hb dX2_lives_19 rfl (lv_at hl 2 rfl) ?_
      refine lv_iload_n hx hb dX2_lives_20 rfl (lv_at hl 3 rfl) ?_
      refine lv_iconst (v := 0) hx hb dX2_lives_21 (by decide) ?_
      obtain ⟨x5, e, hf⟩ := ob hf
      refine q_callVN (As := [.int v3, .int 0]) (rest := []) (st1 := [.int x5]) (c_X5_part G e) B hw hz hc0 (k_X5_part e) (by decide) (ci := 5) rfl rfl my_X5_part mv_X5_part tw_4_36 ⟨Nat.le_of_ble_eq_true rfl, Nat.le_of_ble_eq_true rfl⟩ ⟨Nat.zero_le _, Nat.zero_le _⟩ rfl hl.1 rfl rfl (Nat.le_of_ble_eq_true rfl) dX2_lives_22 (fun H locs hw => ?_)
      refine lv_istore (lv' := [(6, .int x5), (0, .ref v0), (1, .ref v1), (2, .ref v2), (3, .int v3), (4, .long v4)]) hx hb dX2_lives_25 hl (by decide) rfl (fun ls hl => ?_)
      refine lv_iload hx hb dX2_lives_27 (lv_at hl 0 rfl) ?_
      refine lv_aload_n hx hb dX2_lives_29 rfl (lv_at hl 2 rfl) ?_
      obtain ⟨x6, e, hf⟩ := ob hf
      refine q_getIN e B hw fd_8_0.1 fd_8_0.2.1 fd_8_0.2.2.1 fd_8_0.2.2.2.1 fd_8_0.2.2.2.2 rfl tw_1_48 dX2_lives_30 ?_
      refine lv_icmp_lt (tgt := 38) hx hb dX2_lives_33 (by decide) (fun c7 => ?_) (fun c7 => ?_)
      · have hf := (if_pos c7).symm.trans hf
        refine lv_lload hx hb dX2_lives_38 (lv_at hl 5 rfl) ?_
        refine lv_l2i (v := (Int64.toInt32 v4)) hx hb dX2_lives_40 rfl ?_
        obtain ⟨x8, e, hf⟩ := ob hf
        refine q_nmI e ?_
        refine lv_istore (lv' := [(7, .int x8), (6, .int x5), (0, .ref v0), (1, .ref v1), (2, .ref v2), (3, .int v3), (4, .long v4)]) hx hb dX2_lives_41 hl (by decide) rfl (fun ls hl => ?_)
        refine lv_aload_n hx hb dX2_lives_43 rfl (lv_at hl 2 rfl) ?_
        obtain ⟨a9, e, hf⟩ := ob hf
        refine q_getR e B hw fd_2_0.1 fd_2_0.2.1 fd_2_0.2.2.1 fd_2_0.2.2.2.1 fd_2_0.2.2.2.2 rfl tw_1_206 dX2_lives_44 ?_
        refine lv_aload_n hx hb dX2_lives_47 rfl (lv_at hl 4 rfl) ?_
        refine lv_iload_n hx hb dX2_lives_48 rfl (lv_at hl 5 rfl) ?_
        obtain ⟨h10, e, hf⟩ := ob hf
        refine q_callVN (As := [.ref v2, .int v3]) (rest := []) (st1 := []) (c_X7_about G e) B hw hz hc0 (k_X7_about e) (by decide) (ci := 7) rfl rfl my_X7_about mv_X7_about tw_4_37 ⟨Nat.le_of_ble_eq_true rfl, Nat.le_of_ble_eq_true rfl⟩ ⟨Nat.zero_le _, Nat.zero_le _⟩ rfl hl.1 rfl rfl (Nat.le_of_ble_eq_true rfl) dX2_lives_49 (fun H locs hw => ?_)
        refine lv_aload_n hx hb dX2_lives_52 rfl (lv_at hl 2 rfl) ?_
        obtain ⟨a11, e, hf⟩ := ob hf
        refine q_getR e B hw fd_2_0.1 fd_2_0.2.1 fd_2_0.2.2.1 fd_2_0.2.2.2.1 fd_2_0.2.2.2.2 rfl tw_1_206 dX2_lives_53 ?_
        refine lv_aload_n hx hb dX2_lives_56 rfl (lv_at hl 3 rfl) ?_
        refine lv_iload hx hb dX2_lives_57 (lv_at hl 0 rfl) ?_
        obtain ⟨⟨x12, h13⟩, e, hf⟩ := ob hf
        refine q_callVN (As := [.ref v1, .int x8]) (rest := []) (st1 := [.int x12]) (c_X7_worthOf G e) B hw hz hc0 (k_X7_worthOf e) (by decide) (ci := 7) rfl rfl my_X7_worthOf mv_X7_worthOf tw_4_38 ⟨Nat.le_of_ble_eq_true rfl, Nat.le_of_ble_eq_true rfl⟩ ⟨Nat.zero_le _, Nat.zero_le _⟩ rfl hl.1 rfl rfl (Nat.le_of_ble_eq_true rfl) dX2_lives_59 (fun H locs hw => ?_)
        refine lv_istore (lv' := [(8, .int x12), (7, .int x8), (6, .int x5), (0, .ref v0), (1, .ref v1), (2, .ref v2), (3, .int v3), (4, .long v4)]) hx hb dX2_lives_62 hl (by decide) rfl (fun ls hl => ?_)
        refine lv_aload_n hx hb dX2_lives_64 rfl (lv_at hl 5 rfl) ?_
        refine lv_iload_n hx hb dX2_lives_65 rfl (lv_at hl 6 rfl) ?_
        refine lv_iconst (v := 3) hx hb dX2_lives_66 (by decide) ?_
        obtain ⟨x14, e, hf⟩ := ob hf
        refine q_callVN (As := [.int v3, .int 3]) (rest := []) (st1 := [.int x14]) (c_X5_part G e) B hw hz hc0 (k_X5_part e) (by decide) (ci := 5) rfl rfl my_X5_part mv_X5_part tw_4_36 ⟨Nat.le_of_ble_eq_true rfl, Nat.le_of_ble_eq_true rfl⟩ ⟨Nat.zero_le _, Nat.zero_le _⟩ rfl hl.1 rfl rfl (Nat.le_of_ble_eq_true rfl) dX2_lives_67 (fun H locs hw => ?_)
        refine lv_iload hx hb dX2_lives_70 (lv_at hl 1 rfl) ?_
        refine lv_icmp_ne (tgt := 79) hx hb dX2_lives_72 (by decide) (fun c15 => ?_) (fun c15 => ?_)
        · have hf := (if_neg c15).symm.trans hf
          refine lv_iconst (v := 0) hx hb dX2_lives_79 (by decide) ?_
          exact w_X2_lives_80 G B hz hc0 hr hlk  h13 v2 v3 x5 x8 x12 0 _ _ _ hw (lv_sub hl [5, 6, 2, 1, 0] rfl) hf
        · have hf := (if_pos c15).symm.trans hf
          refine lv_iconst (v := 1) hx hb dX2_lives_75 (by decide) ?_
          refine lv_goto (tgt := 80) hx hb dX2_lives_76 (by decide) ?_
          exact w_X2_lives_80 G B hz hc0 hr hlk  h13 v2 v3 x5 x8 x12 1 _ _ _ hw (lv_sub hl [5, 6, 2, 1, 0] rfl) hf
      · have hf := (if_neg c7).symm.trans hf
        refine lv_iconst (v := 2) hx hb dX2_lives_36 (by decide) ?_
        obtain ⟨rfl, rfl⟩ := so2 hf
        exact q_iret B hw hz hc0 hr hlk dX2_lives_37
    · have hf := (if_pos c4).symm.trans hf
      refine lv_iconst (v := 1) hx hb dX2_lives_17 (by decide) ?_
      obtain ⟨rfl, rfl⟩ := so2 hf
      exact q_iret B hw hz hc0 hr hlk dX2_lives_18
/-! SecondLife$Deeds.draws(LSecondLife$Town;LSecondLife$People;I)I -/
def f_X2_draws (n : Nat) (z : Sh) (h : Hp) (v0 : Nat) (v1 : Nat) (v2 : Nat) (v3 : Int32) : Option (Int32 × Hp) :=
  if z.K v0 = 2 then
    (f_X5_has z h v2 v3).bind fun x1 =>
    if x1 = 0 then
      some ((1 : Int32), h)
    else
      (f_X5_part z h v2 v3 1).bind fun x3 =>
      if x3 = 1 then
        (f_X5_part z h v2 v3 8).bind fun x5 =>
        if x5 ≤ 0 then
          (gR z h 2 v0 0).bind fun a7 =>
          (f_X7_about z h a7 v2 v3).bind fun h8 =>
          (gR z h8 2 v0 0).bind fun a9 =>
          (f_X7_grownOf n z h8 a9 v1).bind fun (x10, h11) =>
          (f_X5_part z h11 v2 v3 0).bind fun x12 =>
          (f_X5_put z h11 v2 v3 5 x12).bind fun h13 =>
          (f_X5_put z h13 v2 v3 0 x10).bind fun h14 =>
          (f_X5_put z h14 v2 v3 1 2).bind fun h15 =>
          (f_X5_put z h15 v2 v3 3 9).bind fun h16 =>
          (f_X5_put z h16 v2 v3 4 0).bind fun h17 =>
          some ((0 : Int32), h17)
        else
          some ((3 : Int32), h)
      else
        some ((2 : Int32), h)
  else none
theorem k_X2_draws {n : Nat} {z : Sh} {h : Hp} {v0 : Nat} {v1 : Nat} {v2 : Nat} {v3 : Int32} {w : Int32 × Hp} (hf : f_X2_draws n z h v0 v1 v2 v3 = some w) : z.K v0 = 2 := by
  unfold f_X2_draws at hf
  exact (if_some hf).1
set_option maxHeartbeats 4000000 in
theorem c_X2_draws {l : Launch} {s0 : State} {E : Ev} (G : Gl s0 E) {n : Nat} {z : Sh} {h : Hp} {v0 : Nat} {v1 : Nat} {v2 : Nat} {v3 : Int32} {r : Int32} {h' : Hp} (hf : f_X2_draws n z h v0 v1 v2 v3 = some (r, h')) : Ct l s0 E yX2_draws cX2_draws 5 (some .int) 3 69 [.ref v0, .ref v1, .ref v2, .int v3] z h h' (some (.int r)) := by
  refine Ct.of G (by decide) (Nat.le_of_ble_eq_true rfl) ?_
  intro p e s m below meth c ls B hw hz hc0 hr hlk hl
  have B : Bd p s0 s E m c cX2_draws 5 RX2 := B
  have hx := B.1
  have hb := B.2.1
  have hl : lv_has ls 5 [(0, .ref v0), (1, .ref v1), (2, .ref v2), (3, .int v3)] := hl
  unfold f_X2_draws at hf
  obtain ⟨_, hf⟩ := if_some hf
  refine lv_aload_n hx hb dX2_draws_0 rfl (lv_at hl 2 rfl) ?_
  refine lv_iload_n hx hb dX2_draws_1 rfl (lv_at hl 3 rfl) ?_
  obtain ⟨x1, e, hf⟩ := ob hf
  refine q_callVN (As := [.int v3]) (rest := []) (st1 := [.int x1]) (c_X5_has G e) B hw hz hc0 (k_X5_has e) (by decide) (ci := 5) rfl rfl my_X5_has mv_X5_has tw_4_34 ⟨Nat.le_of_ble_eq_true rfl, Nat.le_of_ble_eq_true rfl⟩ ⟨Nat.zero_le _, Nat.zero_le _⟩ rfl hl.1 rfl rfl (Nat.le_of_ble_eq_true rfl) dX2_draws_2 (fun H locs hw => ?_)
  refine lv_if_ne (tgt := 10) hx hb dX2_draws_5 (by decide) (fun c2 => ?_) (fun c2 => ?_)
  · have hf := (if_neg c2).symm.trans hf
    refine lv_aload_n hx hb dX2_draws_10 rfl (lv_at hl 2 rfl) ?_
    refine lv_iload_n hx hb dX2_draws_11 rfl (lv_at hl 3 rfl) ?_
    refine lv_iconst (v := 1) hx hb dX2_draws_12 (by decide) ?_
    obtain ⟨x3, e, hf⟩ := ob hf
    refine q_callVN (As := [.int v3, .int 1]) (rest := []) (st1 := [.int x3]) (c_X5_part G e) B hw hz hc0 (k_X5_part e) (by decide) (ci := 5) rfl rfl my_X5_part mv_X5_part tw_4_36 ⟨Nat.le_of_ble_eq_true rfl, Nat.le_of_ble_eq_true rfl⟩ ⟨Nat.zero_le _, Nat.zero_le _⟩ rfl hl.1 rfl rfl (Nat.le_of_ble_eq_true rfl) dX2_draws_13 (fun H locs hw => ?_)
    refine lv_iconst (v := 1) hx hb dX2_draws_16 (by decide) ?_
    refine lv_icmp_eq (tgt := 22) hx hb dX2_draws_17 (by decide) (fun c4 => ?_) (fun c4 => ?_)
    · have hf := (if_pos c4).symm.trans hf
      refine lv_aload_n hx hb dX2_draws_22 rfl (lv_at hl 2 rfl) ?_
      refine lv_iload_n hx hb dX2_draws_23 rfl (lv_at hl 3 rfl) ?_
      refine lv_bipush (v := 8) hx hb dX2_draws_24 (by decide) ?_
      obtain ⟨x5, e, hf⟩ := ob hf
      refine q_callVN (As := [.int v3, .int 8]) (rest := []) (st1 := [.int x5]) (c_X5_part G e) B hw hz hc0 (k_X5_part e) (by decide) (ci := 5) rfl rfl my_X5_part mv_X5_part tw_4_36 ⟨Nat.le_of_ble_eq_true rfl, Nat.le_of_ble_eq_true rfl⟩ ⟨Nat.zero_le _, Nat.zero_le _⟩ rfl hl.1 rfl rfl (Nat.le_of_ble_eq_true rfl) dX2_draws_26 (fun H locs hw => ?_)
      refine lv_if_le (tgt := 34) hx hb dX2_draws_29 (by decide) (fun c6 => ?_) (fun c6 => ?_)
      · have hf := (if_pos c6).symm.trans hf
        refine lv_aload_n hx hb dX2_draws_34 rfl (lv_at hl 0 rfl) ?_
        obtain ⟨a7, e, hf⟩ := ob hf
        refine q_getR e B hw fd_2_0.1 fd_2_0.2.1 fd_2_0.2.2.1 fd_2_0.2.2.2.1 fd_2_0.2.2.2.2 rfl tw_1_206 dX2_draws_35 ?_
        refine lv_aload_n hx hb dX2_draws_38 rfl (lv_at hl 2 rfl) ?_
        refine lv_iload_n hx hb dX2_draws_39 rfl (lv_at hl 3 rfl) ?_
        obtain ⟨h8, e, hf⟩ := ob hf
        refine q_callVN (As := [.ref v2, .int v3]) (rest := []) (st1 := []) (c_X7_about G e) B hw hz hc0 (k_X7_about e) (by decide) (ci := 7) rfl rfl my_X7_about mv_X7_about tw_4_37 ⟨Nat.le_of_ble_eq_true rfl, Nat.le_of_ble_eq_true rfl⟩ ⟨Nat.zero_le _, Nat.zero_le _⟩ rfl hl.1 rfl rfl (Nat.le_of_ble_eq_true rfl) dX2_draws_40 (fun H locs hw => ?_)
        refine lv_aload_n hx hb dX2_draws_43 rfl (lv_at hl 0 rfl) ?_
        obtain ⟨a9, e, hf⟩ := ob hf
        refine q_getR e B hw fd_2_0.1 fd_2_0.2.1 fd_2_0.2.2.1 fd_2_0.2.2.2.1 fd_2_0.2.2.2.2 rfl tw_1_206 dX2_draws_44 ?_
        refine lv_aload_n hx hb dX2_draws_47 rfl (lv_at hl 1 rfl) ?_
        obtain ⟨⟨x10, h11⟩, e, hf⟩ := ob hf
        refine q_callVN (As := [.ref v1]) (rest := []) (st1 := [.int x10]) (c_X7_grownOf G e) B hw hz hc0 (k_X7_grownOf e) (by decide) (ci := 7) rfl rfl my_X7_grownOf mv_X7_grownOf tw_4_54 ⟨Nat.le_of_ble_eq_true rfl, Nat.le_of_ble_eq_true rfl⟩ ⟨Nat.zero_le _, Nat.zero_le _⟩ rfl hl.1 rfl rfl (Nat.le_of_ble_eq_true rfl) dX2_draws_48 (fun H locs hw => ?_)
        refine lv_istore (lv' := [(4, .int x10), (0, .ref v0), (1, .ref v1), (2, .ref v2), (3, .int v3)]) hx hb dX2_draws_51 hl (by decide) rfl (fun ls hl => ?_)
        refine lv_aload_n hx hb dX2_draws_53 rfl (lv_at hl 3 rfl) ?_
        refine lv_iload_n hx hb dX2_draws_54 rfl (lv_at hl 4 rfl) ?_
        refine lv_iconst (v := 5) hx hb dX2_draws_55 (by decide) ?_
        refine lv_aload_n hx hb dX2_draws_56 rfl (lv_at hl 3 rfl) ?_
        refine lv_iload_n hx hb dX2_draws_57 rfl (lv_at hl 4 rfl) ?_
        refine lv_iconst (v := 0) hx hb dX2_draws_58 (by decide) ?_
        obtain ⟨x12, e, hf⟩ := ob hf
        refine q_callVN (As := [.int v3, .int 0]) (rest := [.int 5, .int v3, .ref v2]) (st1 := [.int x12, .int 5, .int v3, .ref v2]) (c_X5_part G e) B hw hz hc0 (k_X5_part e) (by decide) (ci := 5) rfl rfl my_X5_part mv_X5_part tw_4_36 ⟨Nat.le_of_ble_eq_true rfl, Nat.le_of_ble_eq_true rfl⟩ ⟨Nat.zero_le _, Nat.zero_le _⟩ rfl hl.1 rfl rfl (Nat.le_of_ble_eq_true rfl) dX2_draws_59 (fun H locs hw => ?_)
        obtain ⟨h13, e, hf⟩ := ob hf
        refine q_callVN (As := [.int v3, .int 5, .int x12]) (rest := []) (st1 := []) (c_X5_put G e) B hw hz hc0 (k_X5_put e) (by decide) (ci := 5) rfl rfl my_X5_put mv_X5_put tw_4_39 ⟨Nat.le_of_ble_eq_true rfl, Nat.le_of_ble_eq_true rfl⟩ ⟨Nat.zero_le _, Nat.zero_le _⟩ rfl hl.1 rfl rfl (Nat.le_of_ble_eq_true rfl) dX2_draws_62 (fun H locs hw => ?_)
        refine lv_aload_n hx hb dX2_draws_65 rfl (lv_at hl 3 rfl) ?_
        refine lv_iload_n hx hb dX2_draws_66 rfl (lv_at hl 4 rfl) ?_
        refine lv_iconst (v := 0) hx hb dX2_draws_67 (by decide) ?_
        refine lv_iload hx hb dX2_draws_68 (lv_at hl 0 rfl) ?_
        obtain ⟨h14, e, hf⟩ := ob hf
        refine q_callVN (As := [.int v3, .int 0, .int x10]) (rest := []) (st1 := []) (c_X5_put G e) B hw hz hc0 (k_X5_put e) (by decide) (ci := 5) rfl rfl my_X5_put mv_X5_put tw_4_39 ⟨Nat.le_of_ble_eq_true rfl, Nat.le_of_ble_eq_true rfl⟩ ⟨Nat.zero_le _, Nat.zero_le _⟩ rfl hl.1 rfl rfl (Nat.le_of_ble_eq_true rfl) dX2_draws_70 (fun H locs hw => ?_)
        refine lv_aload_n hx hb dX2_draws_73 rfl (lv_at hl 3 rfl) ?_
        refine lv_iload_n hx hb dX2_draws_74 rfl (lv_at hl 4 rfl) ?_
        refine lv_iconst (v := 1) hx hb dX2_draws_75 (by decide) ?_
        refine lv_iconst (v := 2) hx hb dX2_draws_76 (by decide) ?_
        obtain ⟨h15, e, hf⟩ := ob hf
        refine q_callVN (As := [.int v3, .int 1, .int 2]) (rest := []) (st1 := []) (c_X5_put G e) B hw hz hc0 (k_X5_put e) (by decide) (ci := 5) rfl rfl my_X5_put mv_X5_put tw_4_39 ⟨Nat.le_of_ble_eq_true rfl, Nat.le_of_ble_eq_true rfl⟩ ⟨Nat.zero_le _, Nat.zero_le _⟩ rfl hl.1 rfl rfl (Nat.le_of_ble_eq_true rfl) dX2_draws_77 (fun H locs hw => ?_)
        refine lv_aload_n hx hb dX2_draws_80 rfl (lv_at hl 3 rfl) ?_
        refine lv_iload_n hx hb dX2_draws_81 rfl (lv_at hl 4 rfl) ?_
        refine lv_iconst (v := 3) hx hb dX2_draws_82 (by decide) ?_
        refine lv_bipush (v := 9) hx hb dX2_draws_83 (by decide) ?_
        obtain ⟨h16, e, hf⟩ := ob hf
        refine q_callVN (As := [.int v3, .int 3, .int 9]) (rest := []) (st1 := []) (c_X5_put G e) B hw hz hc0 (k_X5_put e) (by decide) (ci := 5) rfl rfl my_X5_put mv_X5_put tw_4_39 ⟨Nat.le_of_ble_eq_true rfl, Nat.le_of_ble_eq_true rfl⟩ ⟨Nat.zero_le _, Nat.zero_le _⟩ rfl hl.1 rfl rfl (Nat.le_of_ble_eq_true rfl) dX2_draws_85 (fun H locs hw => ?_)
        refine lv_aload_n hx hb dX2_draws_88 rfl (lv_at hl 3 rfl) ?_
        refine lv_iload_n hx hb dX2_draws_89 rfl (lv_at hl 4 rfl) ?_
        refine lv_iconst (v := 4) hx hb dX2_draws_90 (by decide) ?_
        refine lv_iconst (v := 0) hx hb dX2_draws_91 (by decide) ?_
        obtain ⟨h17, e, hf⟩ := ob hf
        refine q_callVN (As := [.int v3, .int 4, .int 0]) (rest := []) (st1 := []) (c_X5_put G e) B hw hz hc0 (k_X5_put e) (by decide) (ci := 5) rfl rfl my_X5_put mv_X5_put tw_4_39 ⟨Nat.le_of_ble_eq_true rfl, Nat.le_of_ble_eq_true rfl⟩ ⟨Nat.zero_le _, Nat.zero_le _⟩ rfl hl.1 rfl rfl (Nat.le_of_ble_eq_true rfl) dX2_draws_92 (fun H locs hw => ?_)
        refine lv_iconst (v := 0) hx hb dX2_draws_95 (by decide) ?_
        obtain ⟨rfl, rfl⟩ := so2 hf
        exact q_iret B hw hz hc0 hr hlk dX2_draws_96
      · have hf := (if_neg c6).symm.trans hf
        refine lv_iconst (v := 3) hx hb dX2_draws_32 (by decide) ?_
        obtain ⟨rfl, rfl⟩ := so2 hf
        exact q_iret B hw hz hc0 hr hlk dX2_draws_33
    · have hf := (if_neg c4).symm.trans hf
      refine lv_iconst (v := 2) hx hb dX2_draws_20 (by decide) ?_
      obtain ⟨rfl, rfl⟩ := so2 hf
      exact q_iret B hw hz hc0 hr hlk dX2_draws_21
  · have hf := (if_pos c2).symm.trans hf
    refine lv_iconst (v := 1) hx hb dX2_draws_8 (by decide) ?_
    obtain ⟨rfl, rfl⟩ := so2 hf
    exact q_iret B hw hz hc0 hr hlk dX2_draws_9
