/-! SecondLife$Courses.bestFrom(I)J -/
def f_X1_bestFrom_156 (n : Nat) (g_X1_bestFrom : Sh → Hp → Nat → Int32 → Option (Int64 × Hp × Sh))  (z : Sh) (h : Hp) (v0 : Nat) (v1 : Int32) (v4 : Int32) (v5 : Int32) : Option (Int64 × Hp × Sh) :=
  (some ((((Int32.toInt64 v4) * 16) + (Int32.toInt64 v5)) + 1)).bind fun x1 =>
  (gR z h 1 v0 1).bind fun a2 =>
  (gR z h 1 v0 0).bind fun a3 =>
  (gI z h 10 a3 7).bind fun x4 =>
  (f_X3_keep z h a2 v1 x4 x1).bind fun h5 =>
  some (x1, h5, z)
def f_X1_bestFrom_139 (n : Nat) (g_X1_bestFrom : Sh → Hp → Nat → Int32 → Option (Int64 × Hp × Sh))  (z : Sh) (h : Hp) (v0 : Nat) (v1 : Int32) (v4 : Int32) (v5 : Int32) (u0 : Int32) : Option (Int64 × Hp × Sh) :=
  if u0 ≤ v4 then
    f_X1_bestFrom_156 n g_X1_bestFrom z h v0 v1 v4 v5
  else
    f_X1_bestFrom_156 n g_X1_bestFrom z h v0 v1 u0 9
def f_X1_bestFrom_102 (n : Nat) (g_X1_bestFrom : Sh → Hp → Nat → Int32 → Option (Int64 × Hp × Sh))  (k45 : Sh → Hp → Nat → Int32 → Int32 → Int32 → Int32 → Int32 → Option (Int64 × Hp × Sh)) (z : Sh) (h : Hp) (v0 : Nat) (v1 : Int32) (v4 : Int32) (v5 : Int32) (v6 : Int32) (v7 : Int32) : Option (Int64 × Hp × Sh) :=
  (some (v7 + 1)).bind fun x1 =>
  k45 z h v0 v1 v4 v5 v6 x1
def f_X1_bestFrom_45 (n : Nat) (g_X1_bestFrom : Sh → Hp → Nat → Int32 → Option (Int64 × Hp × Sh))  : Nat → Sh → Hp → Nat → Int32 → Int32 → Int32 → Int32 → Int32 → Option (Int64 × Hp × Sh)
  | 0, _, _, _, _, _, _, _, _ => none
  | i + 1, z, h, v0, v1, v4, v5, v6, v7 =>
    if v6 ≤ v7 then
      (gR z h 1 v0 0).bind fun a2 =>
      (f_X10_afterDrawing z h a2 v1).bind fun x3 =>
      if x3 = (-1) then
        f_X1_bestFrom_139 n g_X1_bestFrom z h v0 v1 v4 v5 (-1)
      else
        (ckK z v0 1).bind fun _ =>
        (g_X1_bestFrom z h v0 x3).bind fun (x5, h6, z7) =>
        gd3 z7 <|
        (f_X1_scoreIn z7 h6 x5).bind fun x8 =>
        f_X1_bestFrom_139 n g_X1_bestFrom z7 h6 v0 v1 v4 v5 (x8 - 1)
    else
      (gR z h 1 v0 0).bind fun a9 =>
      (f_X10_afterYear z h a9 v1 v7).bind fun x10 =>
      (ckK z v0 1).bind fun _ =>
      (g_X1_bestFrom z h v0 x10).bind fun (x11, h12, z13) =>
      gd3 z13 <|
      (f_X1_scoreIn z13 h12 x11).bind fun x14 =>
      (gR z13 h12 1 v0 0).bind fun a15 =>
      (f_X10_worthOf n z13 h12 a15 v1 v7).bind fun (x16, h17, z18) =>
      gd3 z18 <|
      (some ((x14 + (x16 * 16)) - 1)).bind fun x19 =>
      if x19 ≤ v4 then
        f_X1_bestFrom_102 n g_X1_bestFrom (f_X1_bestFrom_45 n g_X1_bestFrom i) z18 h17 v0 v1 v4 v5 v6 v7
      else
        f_X1_bestFrom_102 n g_X1_bestFrom (f_X1_bestFrom_45 n g_X1_bestFrom i) z18 h17 v0 v1 x19 v7 v6 v7
def F_X1_bestFrom (n : Nat) (g_X1_bestFrom : Sh → Hp → Nat → Int32 → Option (Int64 × Hp × Sh)) (z : Sh) (h : Hp) (v0 : Nat) (v1 : Int32) : Option (Int64 × Hp × Sh) :=
  if z.K v0 = 1 then
    gd3 z <|
    (gR z h 1 v0 1).bind fun a1 =>
    (gR z h 1 v0 0).bind fun a2 =>
    (gI z h 10 a2 7).bind fun x3 =>
    (f_X3_find z h a1 v1 x3).bind fun x4 =>
    if (lg_cmp x4 (-1)) = 0 then
      (gR z h 1 v0 0).bind fun a6 =>
      (f_X10_openTrades z h a6 v1).bind fun x7 =>
      f_X1_bestFrom_45 n g_X1_bestFrom n z h v0 v1 0 (-1) x7 0
    else
      some (x4, h, z)
  else none
theorem moF_X1_bestFrom {n : Nat} {g_X1_bestFrom : Sh → Hp → Nat → Int32 → Option (Int64 × Hp × Sh)} {z : Sh} {h : Hp} {v0 : Nat} {v1 : Int32} {r : Int64} {h' : Hp} {zE : Sh} (hf : F_X1_bestFrom n g_X1_bestFrom z h v0 v1 = some (r, h', zE)) : z.sz ≤ zE.sz ∧ z.sl ≤ zE.sl := by
  unfold F_X1_bestFrom at hf
  exact (gd3_some (if_some hf).2).1
def rc_X1_bestFrom (n : Nat) : Nat → Sh → Hp → Nat → Int32 → Option (Int64 × Hp × Sh)
  | 0 => (fun _ _ _ _ => none)
  | i + 1 => (F_X1_bestFrom n (rc_X1_bestFrom n i))
def f_X1_bestFrom (n : Nat) (z : Sh) (h : Hp) (v0 : Nat) (v1 : Int32) : Option (Int64 × Hp × Sh) := (rc_X1_bestFrom n 20) z h v0 v1
theorem k_X1_bestFrom {n : Nat} {z : Sh} {h : Hp} {v0 : Nat} {v1 : Int32} {w : Int64 × Hp × Sh} (hf : f_X1_bestFrom n z h v0 v1 = some w) : z.K v0 = 1 := by
  have hf : F_X1_bestFrom n (rc_X1_bestFrom n 19) z h v0 v1 = some w := hf
  unfold F_X1_bestFrom at hf
  exact (if_some hf).1
theorem mo_X1_bestFrom {n : Nat} {z : Sh} {h : Hp} {v0 : Nat} {v1 : Int32} {r : Int64} {h' : Hp} {zE : Sh} (hf : f_X1_bestFrom n z h v0 v1 = some (r, h', zE)) : z.sz ≤ zE.sz ∧ z.sl ≤ zE.sl   := moF_X1_bestFrom (n := n) (g_X1_bestFrom := (rc_X1_bestFrom n 19)) hf
set_option maxHeartbeats 4000000 in
theorem w_X1_bestFrom_156 {p : Program} {l : Launch} {e : Env} {s : State} {m : MethodId} {args : Array Value} {below : List Frame} {meth : Method} {c : Code} {s0 : State} {E : Ev} {z0 : Sh} {d : Nat} {g_X1_bestFrom : Sh → Hp → Nat → Int32 → Option (Int64 × Hp × Sh)} {n : Nat} {r : Int64} {h' : Hp} {zE : Sh} (G : Gl s0 E) (B : Bd p s0 s E m c cX1_bestFrom 11 RX1) (hr : meth.sig.returnType = (some .long)) (hlk : meth.locks = false) (H_X1_bestFrom : ∀ {z : Sh} {h : Hp} {v0 : Nat} {v1 : Int32} {r : Int64} {h' : Hp} {zE : Sh}, g_X1_bestFrom z h v0 v1 = some (r, h', zE) → Ca l s0 E yX1_bestFrom cX1_bestFrom 11 (some .long) (5 + d) (97 + 60 * d) [.ref v0, .int v1] z zE h h' (some (.long r))) (Hm_X1_bestFrom : ∀ {z : Sh} {h : Hp} {v0 : Nat} {v1 : Int32} {r : Int64} {h' : Hp} {zE : Sh}, g_X1_bestFrom z h v0 v1 = some (r, h', zE) → z.sz ≤ zE.sz ∧ z.sl ≤ zE.sl) : ∀ (z : Sh) (h : Hp) (v0 : Nat) (v1 : Int32) (v4 : Int32) (v5 : Int32) (H : Heap) (locs : List Loc) (ls : Array Slot), Pw s0 s E z h H locs → Mo s0 s z0 z zE → lv_has ls 11 [(0, .ref v0), (1, .int v1), (4, .int v4), (5, .int v5)] → f_X1_bestFrom_156 n g_X1_bestFrom z h v0 v1 v4 v5 = some (r, h', zE) → W p l e (rmA (5 + (d + 1)) (97 + 60 * (d + 1)) z0 zE) s m args below meth c H locs (z.sz - z0.sz) (z.sl - z0.sl) (Zt below s0 E zE h' (some (.long r)) args s (zE.sz - z0.sz) (zE.sl - z0.sl)) (F0 m 156 ls []) := by
  have hx := B.1
  have hb := B.2.1
  intro z h v0 v1 v4 v5 H locs ls hw hM hl hf
  unfold f_X1_bestFrom_156 at hf
  refine lv_iload hx hb dX1_bestFrom_156 (lv_at hl 2 rfl) ?_
  refine lv_i2l (v := (Int32.toInt64 v4)) hx hb dX1_bestFrom_158 rfl ?_
  refine lv_ldc2 hx hb B.2.2.2.1 (B.w tw_4_199 rfl) dX1_bestFrom_159 ?_
  refine lv_lmul hx hb dX1_bestFrom_162 ?_
  refine lv_iload hx hb dX1_bestFrom_163 (lv_at hl 3 rfl) ?_
  refine lv_i2l (v := (Int32.toInt64 v5)) hx hb dX1_bestFrom_165 rfl ?_
  refine lv_ladd hx hb dX1_bestFrom_166 ?_
  refine lv_lconst (v := 1) hx hb dX1_bestFrom_167 (by decide) ?_
  refine lv_ladd hx hb dX1_bestFrom_168 ?_
  obtain ⟨x1, e, hf⟩ := ob hf
  refine q_nmJ e ?_
  refine lv_lstore (lv' := [(9, .long x1), (0, .ref v0), (1, .int v1), (4, .int v4), (5, .int v5)]) hx hb dX1_bestFrom_169 hl (by decide) rfl (fun ls hl => ?_)
  refine lv_aload_n hx hb dX1_bestFrom_171 rfl (lv_at hl 1 rfl) ?_
  obtain ⟨a2, e, hf⟩ := ob hf
  refine q_getR e B hw fd_1_1.1 fd_1_1.2.1 fd_1_1.2.2.1 fd_1_1.2.2.2.1 fd_1_1.2.2.2.2 rfl tw_2_44 dX1_bestFrom_172 ?_
  refine lv_iload_n hx hb dX1_bestFrom_175 rfl (lv_at hl 2 rfl) ?_
  refine lv_aload_n hx hb dX1_bestFrom_176 rfl (lv_at hl 1 rfl) ?_
  obtain ⟨a3, e, hf⟩ := ob hf
  refine q_getR e B hw fd_1_0.1 fd_1_0.2.1 fd_1_0.2.2.1 fd_1_0.2.2.2.1 fd_1_0.2.2.2.2 rfl tw_2_43 dX1_bestFrom_177 ?_
  obtain ⟨x4, e, hf⟩ := ob hf
  refine q_getIN e B hw fd_10_7.1 fd_10_7.2.1 fd_10_7.2.2.1 fd_10_7.2.2.2.1 fd_10_7.2.2.2.2 rfl tw_1_238 dX1_bestFrom_180 ?_
  refine lv_lload hx hb dX1_bestFrom_183 (lv_at hl 0 rfl) ?_
  obtain ⟨h5, e, hf⟩ := ob hf
  refine q_callVN (As := [.int v1, .int x4, .long x1]) (rest := []) (st1 := []) (c_X3_keep G e) B hw hM.hz hM.hc0 (k_X3_keep e) (by decide) (ci := 3) rfl rfl my_X3_keep mv_X3_keep tw_4_227 ⟨by simp only [rmO, rmA]; omega, by simp only [rmO, rmA]; omega⟩ hM.hcs rfl hl.1 rfl rfl (Nat.le_of_ble_eq_true rfl) dX1_bestFrom_185 (fun H locs hw => ?_)
  refine lv_lload hx hb dX1_bestFrom_188 (lv_at hl 0 rfl) ?_
  obtain ⟨rfl, rfl, rfl⟩ := so3 hf
  exact q_lret B hw hM.hz hM.hc0 hr hlk dX1_bestFrom_190
set_option maxHeartbeats 4000000 in
theorem w_X1_bestFrom_139 {p : Program} {l : Launch} {e : Env} {s : State} {m : MethodId} {args : Array Value} {below : List Frame} {meth : Method} {c : Code} {s0 : State} {E : Ev} {z0 : Sh} {d : Nat} {g_X1_bestFrom : Sh → Hp → Nat → Int32 → Option (Int64 × Hp × Sh)} {n : Nat} {r : Int64} {h' : Hp} {zE : Sh} (G : Gl s0 E) (B : Bd p s0 s E m c cX1_bestFrom 11 RX1) (hr : meth.sig.returnType = (some .long)) (hlk : meth.locks = false) (H_X1_bestFrom : ∀ {z : Sh} {h : Hp} {v0 : Nat} {v1 : Int32} {r : Int64} {h' : Hp} {zE : Sh}, g_X1_bestFrom z h v0 v1 = some (r, h', zE) → Ca l s0 E yX1_bestFrom cX1_bestFrom 11 (some .long) (5 + d) (97 + 60 * d) [.ref v0, .int v1] z zE h h' (some (.long r))) (Hm_X1_bestFrom : ∀ {z : Sh} {h : Hp} {v0 : Nat} {v1 : Int32} {r : Int64} {h' : Hp} {zE : Sh}, g_X1_bestFrom z h v0 v1 = some (r, h', zE) → z.sz ≤ zE.sz ∧ z.sl ≤ zE.sl) : ∀ (z : Sh) (h : Hp) (v0 : Nat) (v1 : Int32) (v4 : Int32) (v5 : Int32) (u0 : Int32) (H : Heap) (locs : List Loc) (ls : Array Slot), Pw s0 s E z h H locs → Mo s0 s z0 z zE → lv_has ls 11 [(0, .ref v0), (1, .int v1), (4, .int v4), (5, .int v5)] → f_X1_bestFrom_139 n g_X1_bestFrom z h v0 v1 v4 v5 u0 = some (r, h', zE) → W p l e (rmA (5 + (d + 1)) (97 + 60 * (d + 1)) z0 zE) s m args below meth c H locs (z.sz - z0.sz) (z.sl - z0.sl) (Zt below s0 E zE h' (some (.long r)) args s (zE.sz - z0.sz) (zE.sl - z0.sl)) (F0 m 139 ls [.int u0]) := by
  have hx := B.1
  have hb := B.2.1
  intro z h v0 v1 v4 v5 u0 H locs ls hw hM hl hf
  unfold f_X1_bestFrom_139 at hf
  refine lv_istore (lv' := [(8, .int u0), (0, .ref v0), (1, .int v1), (4, .int v4), (5, .int v5)]) hx hb dX1_bestFrom_139 hl (by decide) rfl (fun ls hl => ?_)
  refine lv_iload hx hb dX1_bestFrom_141 (lv_at hl 0 rfl) ?_
  refine lv_iload hx hb dX1_bestFrom_143 (lv_at hl 3 rfl) ?_
  refine lv_icmp_le (tgt := 156) hx hb dX1_bestFrom_145 (by decide) (fun c1 => ?_) (fun c1 => ?_)
  · have hf := (if_pos c1).symm.trans hf
    exact w_X1_bestFrom_156 G B hr hlk H_X1_bestFrom Hm_X1_bestFrom  z h v0 v1 v4 v5 _ _ _ hw hM (lv_sub hl [1, 2, 3, 4] rfl) hf
  · have hf := (if_neg c1).symm.trans hf
    refine lv_iload hx hb dX1_bestFrom_148 (lv_at hl 0 rfl) ?_
    refine lv_istore (lv' := [(4, .int u0), (8, .int u0), (0, .ref v0), (1, .int v1), (5, .int v5)]) hx hb dX1_bestFrom_150 hl (by decide) rfl (fun ls hl => ?_)
    refine lv_bipush (v := 9) hx hb dX1_bestFrom_152 (by decide) ?_
    refine lv_istore (lv' := [(5, .int 9), (4, .int u0), (8, .int u0), (0, .ref v0), (1, .int v1)]) hx hb dX1_bestFrom_154 hl (by decide) rfl (fun ls hl => ?_)
    exact w_X1_bestFrom_156 G B hr hlk H_X1_bestFrom Hm_X1_bestFrom  z h v0 v1 u0 9 _ _ _ hw hM (lv_sub hl [3, 4, 1, 0] rfl) hf
set_option maxHeartbeats 4000000 in
theorem w_X1_bestFrom_102 {p : Program} {l : Launch} {e : Env} {s : State} {m : MethodId} {args : Array Value} {below : List Frame} {meth : Method} {c : Code} {s0 : State} {E : Ev} {z0 : Sh} {d : Nat} {g_X1_bestFrom : Sh → Hp → Nat → Int32 → Option (Int64 × Hp × Sh)} {n : Nat} {k45 : Sh → Hp → Nat → Int32 → Int32 → Int32 → Int32 → Int32 → Option (Int64 × Hp × Sh)} {r : Int64} {h' : Hp} {zE : Sh} (G : Gl s0 E) (B : Bd p s0 s E m c cX1_bestFrom 11 RX1) (hr : meth.sig.returnType = (some .long)) (hlk : meth.locks = false) (H_X1_bestFrom : ∀ {z : Sh} {h : Hp} {v0 : Nat} {v1 : Int32} {r : Int64} {h' : Hp} {zE : Sh}, g_X1_bestFrom z h v0 v1 = some (r, h', zE) → Ca l s0 E yX1_bestFrom cX1_bestFrom 11 (some .long) (5 + d) (97 + 60 * d) [.ref v0, .int v1] z zE h h' (some (.long r))) (Hm_X1_bestFrom : ∀ {z : Sh} {h : Hp} {v0 : Nat} {v1 : Int32} {r : Int64} {h' : Hp} {zE : Sh}, g_X1_bestFrom z h v0 v1 = some (r, h', zE) → z.sz ≤ zE.sz ∧ z.sl ≤ zE.sl) (hk45 : ∀ (z : Sh) (h : Hp) (v0 : Nat) (v1 : Int32) (v4 : Int32) (v5 : Int32) (v6 : Int32) (v7 : Int32) (H : Heap) (locs : List Loc) (ls : Array Slot), Pw s0 s E z h H locs → Mo s0 s z0 z zE → lv_has ls 11 [(0, .ref v0), (1, .int v1), (4, .int v4), (5, .int v5), (6, .int v6), (7, .int v7)] → k45 z h v0 v1 v4 v5 v6 v7 = some (r, h', zE) → W p l e (rmA (5 + (d + 1)) (97 + 60 * (d + 1)) z0 zE) s m args below meth c H locs (z.sz - z0.sz) (z.sl - z0.sl) (Zt below s0 E zE h' (some (.long r)) args s (zE.sz - z0.sz) (zE.sl - z0.sl)) (F0 m 45 ls [])) : ∀ (z : Sh) (h : Hp) (v0 : Nat) (v1 : Int32) (v4 : Int32) (v5 : Int32) (v6 : Int32) (v7 : Int32) (H : Heap) (locs : List Loc) (ls : Array Slot), Pw s0 s E z h H locs → Mo s0 s z0 z zE → lv_has ls 11 [(0, .ref v0), (1, .int v1), (4, .int v4), (5, .int v5), (6, .int v6), (7, .int v7)] → f_X1_bestFrom_102 n g_X1_bestFrom k45 z h v0 v1 v4 v5 v6 v7 = some (r, h', zE) → W p l e (rmA (5 + (d + 1)) (97 + 60 * (d + 1)) z0 zE) s m args below meth c H locs (z.sz - z0.sz) (z.sl - z0.sl) (Zt below s0 E zE h' (some (.long r)) args s (zE.sz - z0.sz) (zE.sl - z0.sl)) (F0 m 102 ls []) := by
  have hx := B.1
  have hb := B.2.1
  intro z h v0 v1 v4 v5 v6 v7 H locs ls hw hM hl hf
  unfold f_X1_bestFrom_102 at hf
  obtain ⟨x1, e, hf⟩ := ob hf
  refine lv_iinc (v := x1) (lv' := [(7, .int x1), (0, .ref v0), (1, .int v1), (4, .int v4), (5, .int v5), (6, .int v6)]) hx hb dX1_bestFrom_102 hl (k := 5) rfl (Option.some.inj e) (by decide) rfl (fun ls hl => ?_)
  refine lv_goto (tgt := 45) hx hb dX1_bestFrom_105 (by decide) ?_
  exact hk45 z h v0 v1 v4 v5 v6 x1 _ _ _ hw hM (lv_sub hl [1, 2, 3, 4, 5, 0] rfl) hf
set_option maxHeartbeats 4000000 in
theorem w_X1_bestFrom_45 {p : Program} {l : Launch} {e : Env} {s : State} {m : MethodId} {args : Array Value} {below : List Frame} {meth : Method} {c : Code} {s0 : State} {E : Ev} {z0 : Sh} {d : Nat} {g_X1_bestFrom : Sh → Hp → Nat → Int32 → Option (Int64 × Hp × Sh)} {n : Nat} {r : Int64} {h' : Hp} {zE : Sh} (G : Gl s0 E) (B : Bd p s0 s E m c cX1_bestFrom 11 RX1) (hr : meth.sig.returnType = (some .long)) (hlk : meth.locks = false) (H_X1_bestFrom : ∀ {z : Sh} {h : Hp} {v0 : Nat} {v1 : Int32} {r : Int64} {h' : Hp} {zE : Sh}, g_X1_bestFrom z h v0 v1 = some (r, h', zE) → Ca l s0 E yX1_bestFrom cX1_bestFrom 11 (some .long) (5 + d) (97 + 60 * d) [.ref v0, .int v1] z zE h h' (some (.long r))) (Hm_X1_bestFrom : ∀ {z : Sh} {h : Hp} {v0 : Nat} {v1 : Int32} {r : Int64} {h' : Hp} {zE : Sh}, g_X1_bestFrom z h v0 v1 = some (r, h', zE) → z.sz ≤ zE.sz ∧ z.sl ≤ zE.sl) : ∀ (i : Nat), ∀ (z : Sh) (h : Hp) (v0 : Nat) (v1 : Int32) (v4 : Int32) (v5 : Int32) (v6 : Int32) (v7 : Int32) (H : Heap) (locs : List Loc) (ls : Array Slot), Pw s0 s E z h H locs → Mo s0 s z0 z zE → lv_has ls 11 [(0, .ref v0), (1, .int v1), (4, .int v4), (5, .int v5), (6, .int v6), (7, .int v7)] → f_X1_bestFrom_45 n g_X1_bestFrom i z h v0 v1 v4 v5 v6 v7 = some (r, h', zE) → W p l e (rmA (5 + (d + 1)) (97 + 60 * (d + 1)) z0 zE) s m args below meth c H locs (z.sz - z0.sz) (z.sl - z0.sl) (Zt below s0 E zE h' (some (.long r)) args s (zE.sz - z0.sz) (zE.sl - z0.sl)) (F0 m 45 ls []) := by
  have hx := B.1
  have hb := B.2.1
  intro i
  induction i with
  | zero =>
    intro z h v0 v1 v4 v5 v6 v7 H locs ls hw hM hl hf
    have hf := (f_X1_bestFrom_45.eq_1 ..).symm.trans hf
    cases hf
  | succ i ih =>
    intro z h v0 v1 v4 v5 v6 v7 H locs ls hw hM hl hf
    have hf := (f_X1_bestFrom_45.eq_2 ..).symm.trans hf
    refine lv_iload hx hb dX1_bestFrom_45 (lv_at hl 5 rfl) ?_
    refine lv_iload hx hb dX1_bestFrom_47 (lv_at hl 4 rfl) ?_
    refine lv_icmp_ge (tgt := 108) hx hb dX1_bestFrom_49 (by decide) (fun c1 => ?_) (fun c1 => ?_)
    · have hf := (if_pos c1).symm.trans hf
      refine lv_aload_n hx hb dX1_bestFrom_108 rfl (lv_at hl 0 rfl) ?_
      obtain ⟨a2, e, hf⟩ := ob hf
      refine q_getR e B hw fd_1_0.1 fd_1_0.2.1 fd_1_0.2.2.1 fd_1_0.2.2.2.1 fd_1_0.2.2.2.2 rfl tw_2_43 dX1_bestFrom_109 ?_
      refine lv_iload_n hx hb dX1_bestFrom_112 rfl (lv_at hl 1 rfl) ?_
      obtain ⟨x3, e, hf⟩ := ob hf
      refine q_callVN (As := [.int v1]) (rest := []) (st1 := [.int x3]) (c_X10_afterDrawing G e) B hw hM.hz hM.hc0 (k_X10_afterDrawing e) (by decide) (ci := 10) rfl rfl my_X10_afterDrawing mv_X10_afterDrawing tw_4_219 ⟨by simp only [rmO, rmA]; omega, by simp only [rmO, rmA]; omega⟩ hM.hcs rfl hl.1 rfl rfl (Nat.le_of_ble_eq_true rfl) dX1_bestFrom_113 (fun H locs hw => ?_)
      refine lv_istore (lv' := [(7, .int x3), (0, .ref v0), (1, .int v1), (4, .int v4), (5, .int v5), (6, .int v6)]) hx hb dX1_bestFrom_116 hl (by decide) rfl (fun ls hl => ?_)
      refine lv_iload hx hb dX1_bestFrom_118 (lv_at hl 0 rfl) ?_
      refine lv_iconst (v := (-1)) hx hb dX1_bestFrom_120 (by decide) ?_
      refine lv_icmp_ne (tgt := 128) hx hb dX1_bestFrom_121 (by decide) (fun c4 => ?_) (fun c4 => ?_)
      · have hf := (if_neg c4).symm.trans hf
        refine lv_aload_n hx hb dX1_bestFrom_128 rfl (lv_at hl 1 rfl) ?_
        refine lv_iload hx hb dX1_bestFrom_129 (lv_at hl 0 rfl) ?_
        obtain ⟨_, eK, hf⟩ := ob hf
        obtain ⟨⟨x5, h6, z7⟩, e, hf⟩ := ob hf
        obtain ⟨hg, hf⟩ := gd3_some hf
        refine q_callVA (As := [.int x3]) (rest := []) (st1 := [.long x5]) (H_X1_bestFrom e) (Hm_X1_bestFrom e) hg B hw hM ((if_some eK).1) (by decide) (ci := 1) rfl rfl my_X1_bestFrom mv_X1_bestFrom tw_4_166 ⟨by omega, by omega⟩ rfl hl.1 rfl rfl (Nat.le_of_ble_eq_true rfl) dX1_bestFrom_131 (fun H locs hw hM => ?_)
        obtain ⟨x8, e, hf⟩ := ob hf
        refine q_callS (As := [.long x5]) (rest := []) (st1 := [.int x8]) (c_X1_scoreIn G e) B hw hM.hz hM.hc0 my_X1_scoreIn mv_X1_scoreIn tw_4_196 ⟨by simp only [rmO, rmA]; omega, by simp only [rmO, rmA]; omega⟩ hM.hcs rfl hl.1 rfl rfl (Nat.le_of_ble_eq_true rfl) dX1_bestFrom_134 (fun H locs hw => ?_)
        refine lv_iconst (v := 1) hx hb dX1_bestFrom_137 (by decide) ?_
        refine lv_isub hx hb dX1_bestFrom_138 ?_
        exact w_X1_bestFrom_139 G B hr hlk H_X1_bestFrom Hm_X1_bestFrom  z7 h6 v0 v1 v4 v5 (x8 - 1) _ _ _ hw hM (lv_sub hl [1, 2, 3, 4] rfl) hf
      · have hf := (if_pos c4).symm.trans hf
        refine lv_iconst (v := (-1)) hx hb dX1_bestFrom_124 (by decide) ?_
        refine lv_goto (tgt := 139) hx hb dX1_bestFrom_125 (by decide) ?_
        exact w_X1_bestFrom_139 G B hr hlk H_X1_bestFrom Hm_X1_bestFrom  z h v0 v1 v4 v5 (-1) _ _ _ hw hM (lv_sub hl [1, 2, 3, 4] rfl) hf
    · have hf := (if_neg c1).symm.trans hf
      refine lv_aload_n hx hb dX1_bestFrom_52 rfl (lv_at hl 0 rfl) ?_
      refine lv_aload_n hx hb dX1_bestFrom_53 rfl (lv_at hl 0 rfl) ?_
      obtain ⟨a9, e, hf⟩ := ob hf
      refine q_getR e B hw fd_1_0.1 fd_1_0.2.1 fd_1_0.2.2.1 fd_1_0.2.2.2.1 fd_1_0.2.2.2.2 rfl tw_2_43 dX1_bestFrom_54 ?_
      refine lv_iload_n hx hb dX1_bestFrom_57 rfl (lv_at hl 1 rfl) ?_
      refine lv_iload hx hb dX1_bestFrom_58 (lv_at hl 5 rfl) ?_
      obtain ⟨x10, e, hf⟩ := ob hf
      refine q_callVN (As := [.int v1, .int v7]) (rest := [.ref v0]) (st1 := [.int x10, .ref v0]) (c_X10_afterYear G e) B hw hM.hz hM.hc0 (k_X10_afterYear e) (by decide) (ci := 10) rfl rfl my_X10_afterYear mv_X10_afterYear tw_4_185 ⟨by simp only [rmO, rmA]; omega, by simp only [rmO, rmA]; omega⟩ hM.hcs rfl hl.1 rfl rfl (Nat.le_of_ble_eq_true rfl) dX1_bestFrom_60 (fun H locs hw => ?_)
      obtain ⟨_, eK, hf⟩ := ob hf
      obtain ⟨⟨x11, h12, z13⟩, e, hf⟩ := ob hf
      obtain ⟨hg, hf⟩ := gd3_some hf
      refine q_callVA (As := [.int x10]) (rest := []) (st1 := [.long x11]) (H_X1_bestFrom e) (Hm_X1_bestFrom e) hg B hw hM ((if_some eK).1) (by decide) (ci := 1) rfl rfl my_X1_bestFrom mv_X1_bestFrom tw_4_166 ⟨by omega, by omega⟩ rfl hl.1 rfl rfl (Nat.le_of_ble_eq_true rfl) dX1_bestFrom_63 (fun H locs hw hM => ?_)
      obtain ⟨x14, e, hf⟩ := ob hf
      refine q_callS (As := [.long x11]) (rest := []) (st1 := [.int x14]) (c_X1_scoreIn G e) B hw hM.hz hM.hc0 my_X1_scoreIn mv_X1_scoreIn tw_4_196 ⟨by simp only [rmO, rmA]; omega, by simp only [rmO, rmA]; omega⟩ hM.hcs rfl hl.1 rfl rfl (Nat.le_of_ble_eq_true rfl) dX1_bestFrom_66 (fun H locs hw => ?_)
      refine lv_aload_n hx hb dX1_bestFrom_69 rfl (lv_at hl 0 rfl) ?_
      obtain ⟨a15, e, hf⟩ := ob hf
      refine q_getR e B hw fd_1_0.1 fd_1_0.2.1 fd_1_0.2.2.1 fd_1_0.2.2.2.1 fd_1_0.2.2.2.2 rfl tw_2_43 dX1_bestFrom_70 ?_
      refine lv_iload_n hx hb dX1_bestFrom_73 rfl (lv_at hl 1 rfl) ?_
      refine lv_iload hx hb dX1_bestFrom_74 (lv_at hl 5 rfl) ?_
      obtain ⟨⟨x16, h17, z18⟩, e, hf⟩ := ob hf
      obtain ⟨hg, hf⟩ := gd3_some hf
      refine q_callVNA (As := [.int v1, .int v7]) (rest := [.int x14]) (st1 := [.int x16, .int x14]) (c_X10_worthOf G e) (mo_X10_worthOf e) hg B hw hM (k_X10_worthOf e) (by decide) (ci := 10) rfl rfl my_X10_worthOf mv_X10_worthOf tw_4_200 ⟨by omega, by omega⟩ rfl hl.1 rfl rfl (Nat.le_of_ble_eq_true rfl) dX1_bestFrom_76 (fun H locs hw hM => ?_)
      refine lv_bipush (v := 16) hx hb dX1_bestFrom_79 (by decide) ?_
      refine lv_imul hx hb dX1_bestFrom_81 ?_
      refine lv_iadd hx hb dX1_bestFrom_82 ?_
      refine lv_iconst (v := 1) hx hb dX1_bestFrom_83 (by decide) ?_
      refine lv_isub hx hb dX1_bestFrom_84 ?_
      obtain ⟨x19, e, hf⟩ := ob hf
      refine q_nmI e ?_
      refine lv_istore (lv' := [(8, .int x19), (0, .ref v0), (1, .int v1), (4, .int v4), (5, .int v5), (6, .int v6), (7, .int v7)]) hx hb dX1_bestFrom_85 hl (by decide) rfl (fun ls hl => ?_)
      refine lv_iload hx hb dX1_bestFrom_87 (lv_at hl 0 rfl) ?_
      refine lv_iload hx hb dX1_bestFrom_89 (lv_at hl 3 rfl) ?_
      refine lv_icmp_le (tgt := 102) hx hb dX1_bestFrom_91 (by decide) (fun c20 => ?_) (fun c20 => ?_)
      · have hf := (if_pos c20).symm.trans hf
        exact w_X1_bestFrom_102 G B hr hlk H_X1_bestFrom Hm_X1_bestFrom ih z18 h17 v0 v1 v4 v5 v6 v7 _ _ _ hw hM (lv_sub hl [1, 2, 3, 4, 5, 6] rfl) hf
      · have hf := (if_neg c20).symm.trans hf
        refine lv_iload hx hb dX1_bestFrom_94 (lv_at hl 0 rfl) ?_
        refine lv_istore (lv' := [(4, .int x19), (8, .int x19), (0, .ref v0), (1, .int v1), (5, .int v5), (6, .int v6), (7, .int v7)]) hx hb dX1_bestFrom_96 hl (by decide) rfl (fun ls hl => ?_)
        refine lv_iload hx hb dX1_bestFrom_98 (lv_at hl 6 rfl) ?_
        refine lv_istore (lv' := [(5, .int v7), (4, .int x19), (8, .int x19), (0, .ref v0), (1, .int v1), (6, .int v6), (7, .int v7)]) hx hb dX1_bestFrom_100 hl (by decide) rfl (fun ls hl => ?_)
        exact w_X1_bestFrom_102 G B hr hlk H_X1_bestFrom Hm_X1_bestFrom ih z18 h17 v0 v1 x19 v7 v6 v7 _ _ _ hw hM (lv_sub hl [3, 4, 1, 0, 5, 6] rfl) hf
set_option maxHeartbeats 4000000 in
theorem co_X1_bestFrom {l : Launch} {s0 : State} {E : Ev} (G : Gl s0 E) {n : Nat} {d : Nat} {g_X1_bestFrom : Sh → Hp → Nat → Int32 → Option (Int64 × Hp × Sh)} (H_X1_bestFrom : ∀ {z : Sh} {h : Hp} {v0 : Nat} {v1 : Int32} {r : Int64} {h' : Hp} {zE : Sh}, g_X1_bestFrom z h v0 v1 = some (r, h', zE) → Ca l s0 E yX1_bestFrom cX1_bestFrom 11 (some .long) (5 + d) (97 + 60 * d) [.ref v0, .int v1] z zE h h' (some (.long r))) (Hm_X1_bestFrom : ∀ {z : Sh} {h : Hp} {v0 : Nat} {v1 : Int32} {r : Int64} {h' : Hp} {zE : Sh}, g_X1_bestFrom z h v0 v1 = some (r, h', zE) → z.sz ≤ zE.sz ∧ z.sl ≤ zE.sl) {z : Sh} {h : Hp} {v0 : Nat} {v1 : Int32} {r : Int64} {h' : Hp} {zE : Sh} (hf : F_X1_bestFrom n g_X1_bestFrom z h v0 v1 = some (r, h', zE)) : Ca l s0 E yX1_bestFrom cX1_bestFrom 11 (some .long) (5 + (d + 1)) (97 + 60 * (d + 1)) [.ref v0, .int v1] z zE h h' (some (.long r)) := by
  refine Ca.of G (by decide +kernel) (Nat.le_of_ble_eq_true rfl) (moF_X1_bestFrom hf) ?_
  intro p e s m below meth c ls B hw hM hr hlk hnm0 hl
  have B : Bd p s0 s E m c cX1_bestFrom 11 RX1 := B
  have hx := B.1
  have hb := B.2.1
  have hl : lv_has ls 11 [(0, .ref v0), (1, .int v1)] := hl
  unfold F_X1_bestFrom at hf
  obtain ⟨_, hf⟩ := if_some hf
  obtain ⟨_, hf⟩ := gd3_some hf
  refine lv_aload_n hx hb dX1_bestFrom_0 rfl (lv_at hl 0 rfl) ?_
  obtain ⟨a1, e, hf⟩ := ob hf
  refine q_getR e B hw fd_1_1.1 fd_1_1.2.1 fd_1_1.2.2.1 fd_1_1.2.2.2.1 fd_1_1.2.2.2.2 rfl tw_2_44 dX1_bestFrom_1 ?_
  refine lv_iload_n hx hb dX1_bestFrom_4 rfl (lv_at hl 1 rfl) ?_
  refine lv_aload_n hx hb dX1_bestFrom_5 rfl (lv_at hl 0 rfl) ?_
  obtain ⟨a2, e, hf⟩ := ob hf
  refine q_getR e B hw fd_1_0.1 fd_1_0.2.1 fd_1_0.2.2.1 fd_1_0.2.2.2.1 fd_1_0.2.2.2.2 rfl tw_2_43 dX1_bestFrom_6 ?_
  obtain ⟨x3, e, hf⟩ := ob hf
  refine q_getIN e B hw fd_10_7.1 fd_10_7.2.1 fd_10_7.2.2.1 fd_10_7.2.2.2.1 fd_10_7.2.2.2.2 rfl tw_1_238 dX1_bestFrom_9 ?_
  obtain ⟨x4, e, hf⟩ := ob hf
  refine q_callVN (As := [.int v1, .int x3]) (rest := []) (st1 := [.long x4]) (c_X3_find G e) B hw hM.hz hM.hc0 (k_X3_find e) (by decide) (ci := 3) rfl rfl my_X3_find mv_X3_find tw_4_170 ⟨by simp only [rmO, rmA]; omega, by simp only [rmO, rmA]; omega⟩ hM.hcs rfl hl.1 rfl rfl (Nat.le_of_ble_eq_true rfl) dX1_bestFrom_12 (fun H locs hw => ?_)
  refine lv_lstore_n (lv' := [(2, .long x4), (0, .ref v0), (1, .int v1)]) hx hb dX1_bestFrom_15 rfl hl (by decide) rfl (fun ls hl => ?_)
  refine lv_lload_n hx hb dX1_bestFrom_16 rfl (lv_at hl 0 rfl) ?_
  refine lv_ldc2 hx hb B.2.2.2.1 (B.w tw_4_177 rfl) dX1_bestFrom_17 ?_
  refine W.lcmp hx hb dX1_bestFrom_20 ?_
  refine lv_if_eq (tgt := 26) hx hb dX1_bestFrom_21 (by decide) (fun c5 => ?_) (fun c5 => ?_)
  · have hf := (if_pos c5).symm.trans hf
    refine lv_iconst (v := 0) hx hb dX1_bestFrom_26 (by decide) ?_
    refine lv_istore (lv' := [(4, .int 0), (2, .long x4), (0, .ref v0), (1, .int v1)]) hx hb dX1_bestFrom_27 hl (by decide) rfl (fun ls hl => ?_)
    refine lv_iconst (v := (-1)) hx hb dX1_bestFrom_29 (by decide) ?_
    refine lv_istore (lv' := [(5, .int (-1)), (4, .int 0), (2, .long x4), (0, .ref v0), (1, .int v1)]) hx hb dX1_bestFrom_30 hl (by decide) rfl (fun ls hl => ?_)
    refine lv_aload_n hx hb dX1_bestFrom_32 rfl (lv_at hl 3 rfl) ?_
    obtain ⟨a6, e, hf⟩ := ob hf
    refine q_getR e B hw fd_1_0.1 fd_1_0.2.1 fd_1_0.2.2.1 fd_1_0.2.2.2.1 fd_1_0.2.2.2.2 rfl tw_2_43 dX1_bestFrom_33 ?_
    refine lv_iload_n hx hb dX1_bestFrom_36 rfl (lv_at hl 4 rfl) ?_
    obtain ⟨x7, e, hf⟩ := ob hf
    refine q_callVN (As := [.int v1]) (rest := []) (st1 := [.int x7]) (c_X10_openTrades G e) B hw hM.hz hM.hc0 (k_X10_openTrades e) (by decide) (ci := 10) rfl rfl my_X10_openTrades mv_X10_openTrades tw_4_178 ⟨by simp only [rmO, rmA]; omega, by simp only [rmO, rmA]; omega⟩ hM.hcs rfl hl.1 rfl rfl (Nat.le_of_ble_eq_true rfl) dX1_bestFrom_37 (fun H locs hw => ?_)
    refine lv_istore (lv' := [(6, .int x7), (5, .int (-1)), (4, .int 0), (2, .long x4), (0, .ref v0), (1, .int v1)]) hx hb dX1_bestFrom_40 hl (by decide) rfl (fun ls hl => ?_)
    refine lv_iconst (v := 0) hx hb dX1_bestFrom_42 (by decide) ?_
    refine lv_istore (lv' := [(7, .int 0), (6, .int x7), (5, .int (-1)), (4, .int 0), (2, .long x4), (0, .ref v0), (1, .int v1)]) hx hb dX1_bestFrom_43 hl (by decide) rfl (fun ls hl => ?_)
    exact w_X1_bestFrom_45 G B hr hlk H_X1_bestFrom Hm_X1_bestFrom  n z h v0 v1 0 (-1) x7 0 _ _ _ hw hM (lv_sub hl [5, 6, 3, 2, 1, 0] rfl) hf
  · have hf := (if_neg c5).symm.trans hf
    refine lv_lload_n hx hb dX1_bestFrom_24 rfl (lv_at hl 0 rfl) ?_
    obtain ⟨rfl, rfl, rfl⟩ := so3 hf
    exact q_lret B hw hM.hz hM.hc0 hr hlk dX1_bestFrom_25
set_option maxHeartbeats 4000000 in
theorem cg_X1_bestFrom {l : Launch} {s0 : State} {E : Ev} (G : Gl s0 E) {n : Nat} : ∀ d : Nat, (∀ {z : Sh} {h : Hp} {v0 : Nat} {v1 : Int32} {r : Int64} {h' : Hp} {zE : Sh}, (rc_X1_bestFrom n d) z h v0 v1 = some (r, h', zE) → Ca l s0 E yX1_bestFrom cX1_bestFrom 11 (some .long) (5 + d) (97 + 60 * d) [.ref v0, .int v1] z zE h h' (some (.long r))) ∧ (∀ {z : Sh} {h : Hp} {v0 : Nat} {v1 : Int32} {r : Int64} {h' : Hp} {zE : Sh}, (rc_X1_bestFrom n d) z h v0 v1 = some (r, h', zE) → z.sz ≤ zE.sz ∧ z.sl ≤ zE.sl) := by
  intro d
  induction d with
  | zero => exact ⟨fun hf => (by cases hf), fun hf => (by cases hf)⟩
  | succ d ih => exact ⟨fun hf => co_X1_bestFrom (n := n) G (fun hf => ih.1 hf) (fun hf => ih.2 hf) hf, fun hf => moF_X1_bestFrom (n := n) (g_X1_bestFrom := (rc_X1_bestFrom n d)) hf⟩
theorem c_X1_bestFrom {l : Launch} {s0 : State} {E : Ev} (G : Gl s0 E) {n : Nat} {z : Sh} {h : Hp} {v0 : Nat} {v1 : Int32} {r : Int64} {h' : Hp} {zE : Sh} (hf : f_X1_bestFrom n z h v0 v1 = some (r, h', zE)) : Ca l s0 E yX1_bestFrom cX1_bestFrom 11 (some .long) 25 1297 [.ref v0, .int v1] z zE h h' (some (.long r)) := (cg_X1_bestFrom G 20).1 hf
/-! SecondLife$Courses.doingAt(I)I -/
def f_X1_doingAt_10 (n : Nat)  : Nat → Sh → Hp → Nat → Int32 → Int32 → Int32 → Option (Int32 × Hp × Sh)
  | 0, _, _, _, _, _, _ => none
  | i + 1, z, h, v0, v1, v2, v3 =>
    if 13 ≤ v3 then
      some (((-1) : Int32), h, z)
    else
      (f_X1_bestFrom n z h v0 v2).bind fun (x2, h3, z4) =>
      gd3 z4 <|
      (f_X1_doingIn z4 h3 x2).bind fun x5 =>
      if x5 = (-1) then
        some (x5, h3, z4)
      else
        if v3 = v1 then
          some (x5, h3, z4)
        else
          (f_X1_after z4 h3 v0 v2 x5).bind fun x8 =>
          (some (v3 + 1)).bind fun x9 =>
          (f_X1_doingAt_10 n i) z4 h3 v0 v1 x8 x9
def f_X1_doingAt (n : Nat) (z : Sh) (h : Hp) (v0 : Nat) (v1 : Int32) : Option (Int32 × Hp × Sh) :=
  if z.K v0 = 1 then
    gd3 z <|
    (gR z h 1 v0 0).bind fun a1 =>
    (gI z h 10 a1 8).bind fun x2 =>
    f_X1_doingAt_10 n n z h v0 v1 x2 0
  else none
theorem k_X1_doingAt {n : Nat} {z : Sh} {h : Hp} {v0 : Nat} {v1 : Int32} {w : Int32 × Hp × Sh} (hf : f_X1_doingAt n z h v0 v1 = some w) : z.K v0 = 1 := by
  unfold f_X1_doingAt at hf
  exact (if_some hf).1
theorem mo_X1_doingAt {n : Nat} {z : Sh} {h : Hp} {v0 : Nat} {v1 : Int32} {r : Int32} {h' : Hp} {zE : Sh} (hf : f_X1_doingAt n z h v0 v1 = some (r, h', zE)) : z.sz ≤ zE.sz ∧ z.sl ≤ zE.sl := by
  unfold f_X1_doingAt at hf
  exact (gd3_some (if_some hf).2).1
set_option maxHeartbeats 4000000 in
theorem w_X1_doingAt_10 {p : Program} {l : Launch} {e : Env} {s : State} {m : MethodId} {args : Array Value} {below : List Frame} {meth : Method} {c : Code} {s0 : State} {E : Ev} {z0 : Sh} {n : Nat} {r : Int32} {h' : Hp} {zE : Sh} (G : Gl s0 E) (B : Bd p s0 s E m c cX1_doingAt 5 RX1) (hr : meth.sig.returnType = (some .int)) (hlk : meth.locks = false) : ∀ (i : Nat), ∀ (z : Sh) (h : Hp) (v0 : Nat) (v1 : Int32) (v2 : Int32) (v3 : Int32) (H : Heap) (locs : List Loc) (ls : Array Slot), Pw s0 s E z h H locs → Mo s0 s z0 z zE → lv_has ls 5 [(0, .ref v0), (1, .int v1), (2, .int v2), (3, .int v3)] → f_X1_doingAt_10 n i z h v0 v1 v2 v3 = some (r, h', zE) → W p l e (rmA 26 1327 z0 zE) s m args below meth c H locs (z.sz - z0.sz) (z.sl - z0.sl) (Zt below s0 E zE h' (some (.int r)) args s (zE.sz - z0.sz) (zE.sl - z0.sl)) (F0 m 10 ls []) := by
  have hx := B.1
  have hb := B.2.1
  intro i
  induction i with
  | zero =>
    intro z h v0 v1 v2 v3 H locs ls hw hM hl hf
    have hf := (f_X1_doingAt_10.eq_1 ..).symm.trans hf
    cases hf
  | succ i ih =>
    intro z h v0 v1 v2 v3 H locs ls hw hM hl hf
    have hf := (f_X1_doingAt_10.eq_2 ..).symm.trans hf
    refine lv_iload_n hx hb dX1_doingAt_10 rfl (lv_at hl 3 rfl) ?_
    refine lv_bipush (v := 13) hx hb dX1_doingAt_11 (by decide) ?_
    refine lv_icmp_ge (tgt := 54) hx hb dX1_doingAt_13 (by decide) (fun c1 => ?_) (fun c1 => ?_)
    · have hf := (if_pos c1).symm.trans hf
      refine lv_iconst (v := (-1)) hx hb dX1_doingAt_54 (by decide) ?_
      obtain ⟨rfl, rfl, rfl⟩ := so3 hf
      exact q_iret B hw hM.hz hM.hc0 hr hlk dX1_doingAt_55
    · have hf := (if_neg c1).symm.trans hf
      refine lv_aload_n hx hb dX1_doingAt_16 rfl (lv_at hl 0 rfl) ?_
      refine lv_iload_n hx hb dX1_doingAt_17 rfl (lv_at hl 2 rfl) ?_
      obtain ⟨⟨x2, h3, z4⟩, e, hf⟩ := ob hf
      obtain ⟨hg, hf⟩ := gd3_some hf
      refine q_callVA (As := [.int v2]) (rest := []) (st1 := [.long x2]) (c_X1_bestFrom G e) (mo_X1_bestFrom e) hg B hw hM (k_X1_bestFrom e) (by decide) (ci := 1) rfl rfl my_X1_bestFrom mv_X1_bestFrom tw_4_166 ⟨Nat.le_of_ble_eq_true rfl, Nat.le_of_ble_eq_true rfl⟩ rfl hl.1 rfl rfl (Nat.le_of_ble_eq_true rfl) dX1_doingAt_18 (fun H locs hw hM => ?_)
      obtain ⟨x5, e, hf⟩ := ob hf
      refine q_callS (As := [.long x2]) (rest := []) (st1 := [.int x5]) (c_X1_doingIn G e) B hw hM.hz hM.hc0 my_X1_doingIn mv_X1_doingIn tw_4_236 ⟨Nat.le_of_ble_eq_true rfl, Nat.le_of_ble_eq_true rfl⟩ hM.hcs rfl hl.1 rfl rfl (Nat.le_of_ble_eq_true rfl) dX1_doingAt_21 (fun H locs hw => ?_)
      refine lv_istore (lv' := [(4, .int x5), (0, .ref v0), (1, .int v1), (2, .int v2), (3, .int v3)]) hx hb dX1_doingAt_24 hl (by decide) rfl (fun ls hl => ?_)
      refine lv_iload hx hb dX1_doingAt_26 (lv_at hl 0 rfl) ?_
      refine lv_iconst (v := (-1)) hx hb dX1_doingAt_28 (by decide) ?_
      refine lv_icmp_eq (tgt := 37) hx hb dX1_doingAt_29 (by decide) (fun c6 => ?_) (fun c6 => ?_)
      · have hf := (if_pos c6).symm.trans hf
        refine lv_iload hx hb dX1_doingAt_37 (lv_at hl 0 rfl) ?_
        obtain ⟨rfl, rfl, rfl⟩ := so3 hf
        exact q_iret B hw hM.hz hM.hc0 hr hlk dX1_doingAt_39
      · have hf := (if_neg c6).symm.trans hf
        refine lv_iload_n hx hb dX1_doingAt_32 rfl (lv_at hl 4 rfl) ?_
        refine lv_iload_n hx hb dX1_doingAt_33 rfl (lv_at hl 2 rfl) ?_
        refine lv_icmp_ne (tgt := 40) hx hb dX1_doingAt_34 (by decide) (fun c7 => ?_) (fun c7 => ?_)
        · have hf := (if_neg c7).symm.trans hf
          refine lv_aload_n hx hb dX1_doingAt_40 rfl (lv_at hl 1 rfl) ?_
          refine lv_iload_n hx hb dX1_doingAt_41 rfl (lv_at hl 3 rfl) ?_
          refine lv_iload hx hb dX1_doingAt_42 (lv_at hl 0 rfl) ?_
          obtain ⟨x8, e, hf⟩ := ob hf
          refine q_callV (As := [.int v2, .int x5]) (rest := []) (st1 := [.int x8]) (c_X1_after G e) B hw hM.hz hM.hc0 (k_X1_after e) (by decide) (ci := 1) rfl rfl my_X1_after mv_X1_after tw_4_239 ⟨Nat.le_of_ble_eq_true rfl, Nat.le_of_ble_eq_true rfl⟩ hM.hcs rfl hl.1 rfl rfl (Nat.le_of_ble_eq_true rfl) dX1_doingAt_44 (fun H locs hw => ?_)
          refine lv_istore_n (lv' := [(2, .int x8), (4, .int x5), (0, .ref v0), (1, .int v1), (3, .int v3)]) hx hb dX1_doingAt_47 rfl hl (by decide) rfl (fun ls hl => ?_)
          obtain ⟨x9, e, hf⟩ := ob hf
          refine lv_iinc (v := x9) (lv' := [(3, .int x9), (2, .int x8), (4, .int x5), (0, .ref v0), (1, .int v1)]) hx hb dX1_doingAt_48 hl (k := 4) rfl (Option.some.inj e) (by decide) rfl (fun ls hl => ?_)
          refine lv_goto (tgt := 10) hx hb dX1_doingAt_51 (by decide) ?_
          exact ih z4 h3 v0 v1 x8 x9 _ _ _ hw hM (lv_sub hl [3, 4, 1, 0] rfl) hf
        · have hf := (if_pos c7).symm.trans hf
          refine lv_iload hx hb dX1_doingAt_37 (lv_at hl 0 rfl) ?_
          obtain ⟨rfl, rfl, rfl⟩ := so3 hf
          exact q_iret B hw hM.hz hM.hc0 hr hlk dX1_doingAt_39
set_option maxHeartbeats 4000000 in
theorem c_X1_doingAt {l : Launch} {s0 : State} {E : Ev} (G : Gl s0 E) {n : Nat} {z : Sh} {h : Hp} {v0 : Nat} {v1 : Int32} {r : Int32} {h' : Hp} {zE : Sh} (hf : f_X1_doingAt n z h v0 v1 = some (r, h', zE)) : Ca l s0 E yX1_doingAt cX1_doingAt 5 (some .int) 26 1327 [.ref v0, .int v1] z zE h h' (some (.int r)) := by
  refine Ca.of G (by decide +kernel) (Nat.le_of_ble_eq_true rfl) (mo_X1_doingAt hf) ?_
  intro p e s m below meth c ls B hw hM hr hlk hnm0 hl
  have B : Bd p s0 s E m c cX1_doingAt 5 RX1 := B
  have hx := B.1
  have hb := B.2.1
  have hl : lv_has ls 5 [(0, .ref v0), (1, .int v1)] := hl
  unfold f_X1_doingAt at hf
  obtain ⟨_, hf⟩ := if_some hf
  obtain ⟨_, hf⟩ := gd3_some hf
  refine lv_aload_n hx hb dX1_doingAt_0 rfl (lv_at hl 0 rfl) ?_
  obtain ⟨a1, e, hf⟩ := ob hf
  refine q_getR e B hw fd_1_0.1 fd_1_0.2.1 fd_1_0.2.2.1 fd_1_0.2.2.2.1 fd_1_0.2.2.2.2 rfl tw_2_43 dX1_doingAt_1 ?_
  obtain ⟨x2, e, hf⟩ := ob hf
  refine q_getIN e B hw fd_10_8.1 fd_10_8.2.1 fd_10_8.2.2.1 fd_10_8.2.2.2.1 fd_10_8.2.2.2.2 rfl tw_2_2 dX1_doingAt_4 ?_
  refine lv_istore_n (lv' := [(2, .int x2), (0, .ref v0), (1, .int v1)]) hx hb dX1_doingAt_7 rfl hl (by decide) rfl (fun ls hl => ?_)
  refine lv_iconst (v := 0) hx hb dX1_doingAt_8 (by decide) ?_
  refine lv_istore_n (lv' := [(3, .int 0), (2, .int x2), (0, .ref v0), (1, .int v1)]) hx hb dX1_doingAt_9 rfl hl (by decide) rfl (fun ls hl => ?_)
  exact w_X1_doingAt_10 G B hr hlk  n z h v0 v1 x2 0 _ _ _ hw hM (lv_sub hl [2, 3, 1, 0] rfl) hf
/-! SecondLife$Courses.drawingYear()I -/
def f_X1_drawingYear_10 (n : Nat)  : Nat → Sh → Hp → Nat → Int32 → Int32 → Option (Int32 × Hp × Sh)
  | 0, _, _, _, _, _ => none
  | i + 1, z, h, v0, v1, v2 =>
    if 13 ≤ v2 then
      some (((-1) : Int32), h, z)
    else
      (f_X1_bestFrom n z h v0 v1).bind fun (x2, h3, z4) =>
      gd3 z4 <|
      (f_X1_doingIn z4 h3 x2).bind fun x5 =>
      if x5 = (-1) then
        some (((-1) : Int32), h3, z4)
      else
        if x5 = 9 then
          (f_X10_yearOf z4 h3 v1).bind fun x10 =>
          some (x10, h3, z4)
        else
          (f_X1_after z4 h3 v0 v1 x5).bind fun x8 =>
          (some (v2 + 1)).bind fun x9 =>
          (f_X1_drawingYear_10 n i) z4 h3 v0 x8 x9
def f_X1_drawingYear (n : Nat) (z : Sh) (h : Hp) (v0 : Nat) : Option (Int32 × Hp × Sh) :=
  if z.K v0 = 1 then
    gd3 z <|
    (gR z h 1 v0 0).bind fun a1 =>
    (gI z h 10 a1 8).bind fun x2 =>
    f_X1_drawingYear_10 n n z h v0 x2 0
  else none
theorem k_X1_drawingYear {n : Nat} {z : Sh} {h : Hp} {v0 : Nat} {w : Int32 × Hp × Sh} (hf : f_X1_drawingYear n z h v0 = some w) : z.K v0 = 1 := by
  unfold f_X1_drawingYear at hf
  exact (if_some hf).1
theorem mo_X1_drawingYear {n : Nat} {z : Sh} {h : Hp} {v0 : Nat} {r : Int32} {h' : Hp} {zE : Sh} (hf : f_X1_drawingYear n z h v0 = some (r, h', zE)) : z.sz ≤ zE.sz ∧ z.sl ≤ zE.sl := by
  unfold f_X1_drawingYear at hf
  exact (gd3_some (if_some hf).2).1
set_option maxHeartbeats 4000000 in
theorem w_X1_drawingYear_10 {p : Program} {l : Launch} {e : Env} {s : State} {m : MethodId} {args : Array Value} {below : List Frame} {meth : Method} {c : Code} {s0 : State} {E : Ev} {z0 : Sh} {n : Nat} {r : Int32} {h' : Hp} {zE : Sh} (G : Gl s0 E) (B : Bd p s0 s E m c cX1_drawingYear 4 RX1) (hr : meth.sig.returnType = (some .int)) (hlk : meth.locks = false) : ∀ (i : Nat), ∀ (z : Sh) (h : Hp) (v0 : Nat) (v1 : Int32) (v2 : Int32) (H : Heap) (locs : List Loc) (ls : Array Slot), Pw s0 s E z h H locs → Mo s0 s z0 z zE → lv_has ls 4 [(0, .ref v0), (1, .int v1), (2, .int v2)] → f_X1_drawingYear_10 n i z h v0 v1 v2 = some (r, h', zE) → W p l e (rmA 26 1327 z0 zE) s m args below meth c H locs (z.sz - z0.sz) (z.sl - z0.sl) (Zt below s0 E zE h' (some (.int r)) args s (zE.sz - z0.sz) (zE.sl - z0.sl)) (F0 m 10 ls []) := by
  have hx := B.1
  have hb := B.2.1
  intro i
  induction i with
  | zero =>
    intro z h v0 v1 v2 H locs ls hw hM hl hf
    have hf := (f_X1_drawingYear_10.eq_1 ..).symm.trans hf
    cases hf
  | succ i ih =>
    intro z h v0 v1 v2 H locs ls hw hM hl hf
    have hf := (f_X1_drawingYear_10.eq_2 ..).symm.trans hf
    refine lv_iload_n hx hb dX1_drawingYear_10 rfl (lv_at hl 2 rfl) ?_
    refine lv_bipush (v := 13) hx hb dX1_drawingYear_11 (by decide) ?_
    refine lv_icmp_ge (tgt := 56) hx hb dX1_drawingYear_13 (by decide) (fun c1 => ?_) (fun c1 => ?_)
    · have hf := (if_pos c1).symm.trans hf
      refine lv_iconst (v := (-1)) hx hb dX1_drawingYear_56 (by decide) ?_
      obtain ⟨rfl, rfl, rfl⟩ := so3 hf
      exact q_iret B hw hM.hz hM.hc0 hr hlk dX1_drawingYear_57
    · have hf := (if_neg c1).symm.trans hf
      refine lv_aload_n hx hb dX1_drawingYear_16 rfl (lv_at hl 0 rfl) ?_
      refine lv_iload_n hx hb dX1_drawingYear_17 rfl (lv_at hl 1 rfl) ?_
      obtain ⟨⟨x2, h3, z4⟩, e, hf⟩ := ob hf
      obtain ⟨hg, hf⟩ := gd3_some hf
      refine q_callVA (As := [.int v1]) (rest := []) (st1 := [.long x2]) (c_X1_bestFrom G e) (mo_X1_bestFrom e) hg B hw hM (k_X1_bestFrom e) (by decide) (ci := 1) rfl rfl my_X1_bestFrom mv_X1_bestFrom tw_4_166 ⟨Nat.le_of_ble_eq_true rfl, Nat.le_of_ble_eq_true rfl⟩ rfl hl.1 rfl rfl (Nat.le_of_ble_eq_true rfl) dX1_drawingYear_18 (fun H locs hw hM => ?_)
      obtain ⟨x5, e, hf⟩ := ob hf
      refine q_callS (As := [.long x2]) (rest := []) (st1 := [.int x5]) (c_X1_doingIn G e) B hw hM.hz hM.hc0 my_X1_doingIn mv_X1_doingIn tw_4_236 ⟨Nat.le_of_ble_eq_true rfl, Nat.le_of_ble_eq_true rfl⟩ hM.hcs rfl hl.1 rfl rfl (Nat.le_of_ble_eq_true rfl) dX1_drawingYear_21 (fun H locs hw => ?_)
      refine lv_istore_n (lv' := [(3, .int x5), (0, .ref v0), (1, .int v1), (2, .int v2)]) hx hb dX1_drawingYear_24 rfl hl (by decide) rfl (fun ls hl => ?_)
      refine lv_iload_n hx hb dX1_drawingYear_25 rfl (lv_at hl 0 rfl) ?_
      refine lv_iconst (v := (-1)) hx hb dX1_drawingYear_26 (by decide) ?_
      refine lv_icmp_ne (tgt := 32) hx hb dX1_drawingYear_27 (by decide) (fun c6 => ?_) (fun c6 => ?_)
      · have hf := (if_neg c6).symm.trans hf
        refine lv_iload_n hx hb dX1_drawingYear_32 rfl (lv_at hl 0 rfl) ?_
        refine lv_bipush (v := 9) hx hb dX1_drawingYear_33 (by decide) ?_
        refine lv_icmp_ne (tgt := 43) hx hb dX1_drawingYear_35 (by decide) (fun c7 => ?_) (fun c7 => ?_)
        · have hf := (if_neg c7).symm.trans hf
          refine lv_aload_n hx hb dX1_drawingYear_43 rfl (lv_at hl 1 rfl) ?_
          refine lv_iload_n hx hb dX1_drawingYear_44 rfl (lv_at hl 2 rfl) ?_
          refine lv_iload_n hx hb dX1_drawingYear_45 rfl (lv_at hl 0 rfl) ?_
          obtain ⟨x8, e, hf⟩ := ob hf
          refine q_callV (As := [.int v1, .int x5]) (rest := []) (st1 := [.int x8]) (c_X1_after G e) B hw hM.hz hM.hc0 (k_X1_after e) (by decide) (ci := 1) rfl rfl my_X1_after mv_X1_after tw_4_239 ⟨Nat.le_of_ble_eq_true rfl, Nat.le_of_ble_eq_true rfl⟩ hM.hcs rfl hl.1 rfl rfl (Nat.le_of_ble_eq_true rfl) dX1_drawingYear_46 (fun H locs hw => ?_)
          refine lv_istore_n (lv' := [(1, .int x8), (3, .int x5), (0, .ref v0), (2, .int v2)]) hx hb dX1_drawingYear_49 rfl hl (by decide) rfl (fun ls hl => ?_)
          obtain ⟨x9, e, hf⟩ := ob hf
          refine lv_iinc (v := x9) (lv' := [(2, .int x9), (1, .int x8), (3, .int x5), (0, .ref v0)]) hx hb dX1_drawingYear_50 hl (k := 3) rfl (Option.some.inj e) (by decide) rfl (fun ls hl => ?_)
          refine lv_goto (tgt := 10) hx hb dX1_drawingYear_53 (by decide) ?_
          exact ih z4 h3 v0 x8 x9 _ _ _ hw hM (lv_sub hl [3, 1, 0] rfl) hf
        · have hf := (if_pos c7).symm.trans hf
          refine lv_iload_n hx hb dX1_drawingYear_38 rfl (lv_at hl 2 rfl) ?_
          obtain ⟨x10, e, hf⟩ := ob hf
          refine q_callSN (As := [.int v1]) (rest := []) (st1 := [.int x10]) (c_X10_yearOf G e) B hw hM.hz hM.hc0 my_X10_yearOf mv_X10_yearOf tw_5_11 ⟨Nat.le_of_ble_eq_true rfl, Nat.le_of_ble_eq_true rfl⟩ hM.hcs rfl hl.1 rfl rfl (Nat.le_of_ble_eq_true rfl) dX1_drawingYear_39 (fun H locs hw => ?_)
          obtain ⟨rfl, rfl, rfl⟩ := so3 hf
          exact q_iret B hw hM.hz hM.hc0 hr hlk dX1_drawingYear_42
      · have hf := (if_pos c6).symm.trans hf
        refine lv_iconst (v := (-1)) hx hb dX1_drawingYear_30 (by decide) ?_
        obtain ⟨rfl, rfl, rfl⟩ := so3 hf
        exact q_iret B hw hM.hz hM.hc0 hr hlk dX1_drawingYear_31
set_option maxHeartbeats 4000000 in
theorem c_X1_drawingYear {l : Launch} {s0 : State} {E : Ev} (G : Gl s0 E) {n : Nat} {z : Sh} {h : Hp} {v0 : Nat} {r : Int32} {h' : Hp} {zE : Sh} (hf : f_X1_drawingYear n z h v0 = some (r, h', zE)) : Ca l s0 E yX1_drawingYear cX1_drawingYear 4 (some .int) 26 1327 [.ref v0] z zE h h' (some (.int r)) := by
  refine Ca.of G (by decide +kernel) (Nat.le_of_ble_eq_true rfl) (mo_X1_drawingYear hf) ?_
  intro p e s m below meth c ls B hw hM hr hlk hnm0 hl
  have B : Bd p s0 s E m c cX1_drawingYear 4 RX1 := B
  have hx := B.1
  have hb := B.2.1
  have hl : lv_has ls 4 [(0, .ref v0)] := hl
  unfold f_X1_drawingYear at hf
  obtain ⟨_, hf⟩ := if_some hf
  obtain ⟨_, hf⟩ := gd3_some hf
  refine lv_aload_n hx hb dX1_drawingYear_0 rfl (lv_at hl 0 rfl) ?_
  obtain ⟨a1, e, hf⟩ := ob hf
  refine q_getR e B hw fd_1_0.1 fd_1_0.2.1 fd_1_0.2.2.1 fd_1_0.2.2.2.1 fd_1_0.2.2.2.2 rfl tw_2_43 dX1_drawingYear_1 ?_
  obtain ⟨x2, e, hf⟩ := ob hf
  refine q_getIN e B hw fd_10_8.1 fd_10_8.2.1 fd_10_8.2.2.1 fd_10_8.2.2.2.1 fd_10_8.2.2.2.2 rfl tw_2_2 dX1_drawingYear_4 ?_
  refine lv_istore_n (lv' := [(1, .int x2), (0, .ref v0)]) hx hb dX1_drawingYear_7 rfl hl (by decide) rfl (fun ls hl => ?_)
  refine lv_iconst (v := 0) hx hb dX1_drawingYear_8 (by decide) ?_
  refine lv_istore_n (lv' := [(2, .int 0), (1, .int x2), (0, .ref v0)]) hx hb dX1_drawingYear_9 rfl hl (by decide) rfl (fun ls hl => ?_)
  exact w_X1_drawingYear_10 G B hr hlk  n z h v0 x2 0 _ _ _ hw hM (lv_sub hl [2, 1, 0] rfl) hf
/-! SecondLife$Courses.listInto(LSecondLife$Tray;I)I -/
def f_X1_listInto_75 (n : Nat)  (k14 : Sh → Hp → Nat → Nat → Int32 → Int32 → Int32 → Int32 → Option (Int32 × Hp × Sh)) (z : Sh) (h : Hp) (v0 : Nat) (v1 : Nat) (v2 : Int32) (v3 : Int32) (v4 : Int32) (v5 : Int32) (v6 : Int32) (u0 : Int64) (u1 : Int32) (u2 : Nat) : Option (Int32 × Hp × Sh) :=
  (f_X9_put z h u2 u1 u0).bind fun h1 =>
  (some (v4 + 1)).bind fun x2 =>
  (f_X1_after z h1 v0 v3 v6).bind fun x3 =>
  (some (v5 + 1)).bind fun x4 =>
  k14 z h1 v0 v1 v2 x3 x2 x4
def f_X1_listInto_14 (n : Nat)  : Nat → Sh → Hp → Nat → Nat → Int32 → Int32 → Int32 → Int32 → Option (Int32 × Hp × Sh)
  | 0, _, _, _, _, _, _, _, _ => none
  | i + 1, z, h, v0, v1, v2, v3, v4, v5 =>
    if 13 ≤ v5 then
      some (v4, h, z)
    else
      (gI z h 9 v1 3).bind fun x2 =>
      if x2 ≤ v5 then
        some (v4, h, z)
      else
        (f_X1_bestFrom n z h v0 v3).bind fun (x4, h5, z6) =>
        gd3 z6 <|
        (f_X1_doingIn z6 h5 x4).bind fun x7 =>
        if x7 = (-1) then
          some (v4, h5, z6)
        else
          if x7 = 9 then
            f_X1_listInto_75 n (f_X1_listInto_14 n i) z6 h5 v0 v1 v2 v3 v4 v5 x7 (Int32.toInt64 (100 + v2)) v5 v1
          else
            f_X1_listInto_75 n (f_X1_listInto_14 n i) z6 h5 v0 v1 v2 v3 v4 v5 x7 (Int32.toInt64 ((v2 * 10) + x7)) v5 v1
def f_X1_listInto (n : Nat) (z : Sh) (h : Hp) (v0 : Nat) (v1 : Nat) (v2 : Int32) : Option (Int32 × Hp × Sh) :=
  if z.K v0 = 1 then
    gd3 z <|
    (gR z h 1 v0 0).bind fun a1 =>
    (gI z h 10 a1 8).bind fun x2 =>
    f_X1_listInto_14 n n z h v0 v1 v2 x2 0 0
  else none
theorem k_X1_listInto {n : Nat} {z : Sh} {h : Hp} {v0 : Nat} {v1 : Nat} {v2 : Int32} {w : Int32 × Hp × Sh} (hf : f_X1_listInto n z h v0 v1 v2 = some w) : z.K v0 = 1 := by
  unfold f_X1_listInto at hf
  exact (if_some hf).1
theorem mo_X1_listInto {n : Nat} {z : Sh} {h : Hp} {v0 : Nat} {v1 : Nat} {v2 : Int32} {r : Int32} {h' : Hp} {zE : Sh} (hf : f_X1_listInto n z h v0 v1 v2 = some (r, h', zE)) : z.sz ≤ zE.sz ∧ z.sl ≤ zE.sl := by
  unfold f_X1_listInto at hf
  exact (gd3_some (if_some hf).2).1
set_option maxHeartbeats 4000000 in
theorem w_X1_listInto_75 {p : Program} {l : Launch} {e : Env} {s : State} {m : MethodId} {args : Array Value} {below : List Frame} {meth : Method} {c : Code} {s0 : State} {E : Ev} {z0 : Sh} {n : Nat} {k14 : Sh → Hp → Nat → Nat → Int32 → Int32 → Int32 → Int32 → Option (Int32 × Hp × Sh)} {r : Int32} {h' : Hp} {zE : Sh} (G : Gl s0 E) (B : Bd p s0 s E m c cX1_listInto 7 RX1) (hr : meth.sig.returnType = (some .int)) (hlk : meth.locks = false) (hk14 : ∀ (z : Sh) (h : Hp) (v0 : Nat) (v1 : Nat) (v2 : Int32) (v3 : Int32) (v4 : Int32) (v5 : Int32) (H : Heap) (locs : List Loc) (ls : Array Slot), Pw s0 s E z h H locs → Mo s0 s z0 z zE → lv_has ls 7 [(0, .ref v0), (1, .ref v1), (2, .int v2), (3, .int v3), (4, .int v4), (5, .int v5)] → k14 z h v0 v1 v2 v3 v4 v5 = some (r, h', zE) → W p l e (rmA 26 1327 z0 zE) s m args below meth c H locs (z.sz - z0.sz) (z.sl - z0.sl) (Zt below s0 E zE h' (some (.int r)) args s (zE.sz - z0.sz) (zE.sl - z0.sl)) (F0 m 14 ls [])) : ∀ (z : Sh) (h : Hp) (v0 : Nat) (v1 : Nat) (v2 : Int32) (v3 : Int32) (v4 : Int32) (v5 : Int32) (v6 : Int32) (u0 : Int64) (u1 : Int32) (u2 : Nat) (H : Heap) (locs : List Loc) (ls : Array Slot), Pw s0 s E z h H locs → Mo s0 s z0 z zE → lv_has ls 7 [(0, .ref v0), (1, .ref v1), (2, .int v2), (3, .int v3), (4, .int v4), (5, .int v5), (6, .int v6)] → f_X1_listInto_75 n k14 z h v0 v1 v2 v3 v4 v5 v6 u0 u1 u2 = some (r, h', zE) → W p l e (rmA 26 1327 z0 zE) s m args below meth c H locs (z.sz - z0.sz) (z.sl - z0.sl) (Zt below s0 E zE h' (some (.int r)) args s (zE.sz - z0.sz) (zE.sl - z0.sl)) (F0 m 75 ls [.long u0, .int u1, .ref u2]) := by
  have hx := B.1
  have hb := B.2.1
  intro z h v0 v1 v2 v3 v4 v5 v6 u0 u1 u2 H locs ls hw hM hl hf
  unfold f_X1_listInto_75 at hf
  obtain ⟨h1, e, hf⟩ := ob hf
  refine q_callVN (As := [.int u1, .long u0]) (rest := []) (st1 := []) (c_X9_put G e) B hw hM.hz hM.hc0 (k_X9_put e) (by decide) (ci := 9) rfl rfl my_X9_put mv_X9_put tw_6_16 ⟨Nat.le_of_ble_eq_true rfl, Nat.le_of_ble_eq_true rfl⟩ hM.hcs rfl hl.1 rfl rfl (Nat.le_of_ble_eq_true rfl) dX1_listInto_75 (fun H locs hw => ?_)
  obtain ⟨x2, e, hf⟩ := ob hf
  refine lv_iinc (v := x2) (lv' := [(4, .int x2), (0, .ref v0), (1, .ref v1), (2, .int v2), (3, .int v3), (5, .int v5), (6, .int v6)]) hx hb dX1_listInto_78 hl (k := 4) rfl (Option.some.inj e) (by decide) rfl (fun ls hl => ?_)
  refine lv_aload_n hx hb dX1_listInto_81 rfl (lv_at hl 1 rfl) ?_
  refine lv_iload_n hx hb dX1_listInto_82 rfl (lv_at hl 4 rfl) ?_
  refine lv_iload hx hb dX1_listInto_83 (lv_at hl 6 rfl) ?_
  obtain ⟨x3, e, hf⟩ := ob hf
  refine q_callV (As := [.int v3, .int v6]) (rest := []) (st1 := [.int x3]) (c_X1_after G e) B hw hM.hz hM.hc0 (k_X1_after e) (by decide) (ci := 1) rfl rfl my_X1_after mv_X1_after tw_4_239 ⟨Nat.le_of_ble_eq_true rfl, Nat.le_of_ble_eq_true rfl⟩ hM.hcs rfl hl.1 rfl rfl (Nat.le_of_ble_eq_true rfl) dX1_listInto_85 (fun H locs hw => ?_)
  refine lv_istore_n (lv' := [(3, .int x3), (4, .int x2), (0, .ref v0), (1, .ref v1), (2, .int v2), (5, .int v5), (6, .int v6)]) hx hb dX1_listInto_88 rfl hl (by decide) rfl (fun ls hl => ?_)
  obtain ⟨x4, e, hf⟩ := ob hf
  refine lv_iinc (v := x4) (lv' := [(5, .int x4), (3, .int x3), (4, .int x2), (0, .ref v0), (1, .ref v1), (2, .int v2), (6, .int v6)]) hx hb dX1_listInto_89 hl (k := 5) rfl (Option.some.inj e) (by decide) rfl (fun ls hl => ?_)
  refine lv_goto (tgt := 14) hx hb dX1_listInto_92 (by decide) ?_
  exact hk14 z h1 v0 v1 v2 x3 x2 x4 _ _ _ hw hM (lv_sub hl [3, 4, 5, 1, 2, 0] rfl) hf
set_option maxHeartbeats 4000000 in
theorem w_X1_listInto_14 {p : Program} {l : Launch} {e : Env} {s : State} {m : MethodId} {args : Array Value} {below : List Frame} {meth : Method} {c : Code} {s0 : State} {E : Ev} {z0 : Sh} {n : Nat} {r : Int32} {h' : Hp} {zE : Sh} (G : Gl s0 E) (B : Bd p s0 s E m c cX1_listInto 7 RX1) (hr : meth.sig.returnType = (some .int)) (hlk : meth.locks = false) : ∀ (i : Nat), ∀ (z : Sh) (h : Hp) (v0 : Nat) (v1 : Nat) (v2 : Int32) (v3 : Int32) (v4 : Int32) (v5 : Int32) (H : Heap) (locs : List Loc) (ls : Array Slot), Pw s0 s E z h H locs → Mo s0 s z0 z zE → lv_has ls 7 [(0, .ref v0), (1, .ref v1), (2, .int v2), (3, .int v3), (4, .int v4), (5, .int v5)] → f_X1_listInto_14 n i z h v0 v1 v2 v3 v4 v5 = some (r, h', zE) → W p l e (rmA 26 1327 z0 zE) s m args below meth c H locs (z.sz - z0.sz) (z.sl - z0.sl) (Zt below s0 E zE h' (some (.int r)) args s (zE.sz - z0.sz) (zE.sl - z0.sl)) (F0 m 14 ls []) := by
  have hx := B.1
  have hb := B.2.1
  intro i
  induction i with
  | zero =>
    intro z h v0 v1 v2 v3 v4 v5 H locs ls hw hM hl hf
    have hf := (f_X1_listInto_14.eq_1 ..).symm.trans hf
    cases hf
  | succ i ih =>
    intro z h v0 v1 v2 v3 v4 v5 H locs ls hw hM hl hf
    have hf := (f_X1_listInto_14.eq_2 ..).symm.trans hf
    refine lv_iload hx hb dX1_listInto_14 (lv_at hl 5 rfl) ?_
    refine lv_bipush (v := 13) hx hb dX1_listInto_16 (by decide) ?_
    refine lv_icmp_ge (tgt := 95) hx hb dX1_listInto_18 (by decide) (fun c1 => ?_) (fun c1 => ?_)
    · have hf := (if_pos c1).symm.trans hf
      refine lv_iload hx hb dX1_listInto_95 (lv_at hl 4 rfl) ?_
      obtain ⟨rfl, rfl, rfl⟩ := so3 hf
      exact q_iret B hw hM.hz hM.hc0 hr hlk dX1_listInto_97
    · have hf := (if_neg c1).symm.trans hf
      refine lv_iload hx hb dX1_listInto_21 (lv_at hl 5 rfl) ?_
      refine lv_aload_n hx hb dX1_listInto_23 rfl (lv_at hl 1 rfl) ?_
      obtain ⟨x2, e, hf⟩ := ob hf
      refine q_getIN e B hw fd_9_3.1 fd_9_3.2.1 fd_9_3.2.2.1 fd_9_3.2.2.2.1 fd_9_3.2.2.2.2 rfl tw_2_91 dX1_listInto_24 ?_
      refine lv_icmp_ge (tgt := 95) hx hb dX1_listInto_27 (by decide) (fun c3 => ?_) (fun c3 => ?_)
      · have hf := (if_pos c3).symm.trans hf
        refine lv_iload hx hb dX1_listInto_95 (lv_at hl 4 rfl) ?_
        obtain ⟨rfl, rfl, rfl⟩ := so3 hf
        exact q_iret B hw hM.hz hM.hc0 hr hlk dX1_listInto_97
      · have hf := (if_neg c3).symm.trans hf
        refine lv_aload_n hx hb dX1_listInto_30 rfl (lv_at hl 0 rfl) ?_
        refine lv_iload_n hx hb dX1_listInto_31 rfl (lv_at hl 3 rfl) ?_
        obtain ⟨⟨x4, h5, z6⟩, e, hf⟩ := ob hf
        obtain ⟨hg, hf⟩ := gd3_some hf
        refine q_callVA (As := [.int v3]) (rest := []) (st1 := [.long x4]) (c_X1_bestFrom G e) (mo_X1_bestFrom e) hg B hw hM (k_X1_bestFrom e) (by decide) (ci := 1) rfl rfl my_X1_bestFrom mv_X1_bestFrom tw_4_166 ⟨Nat.le_of_ble_eq_true rfl, Nat.le_of_ble_eq_true rfl⟩ rfl hl.1 rfl rfl (Nat.le_of_ble_eq_true rfl) dX1_listInto_32 (fun H locs hw hM => ?_)
        obtain ⟨x7, e, hf⟩ := ob hf
        refine q_callS (As := [.long x4]) (rest := []) (st1 := [.int x7]) (c_X1_doingIn G e) B hw hM.hz hM.hc0 my_X1_doingIn mv_X1_doingIn tw_4_236 ⟨Nat.le_of_ble_eq_true rfl, Nat.le_of_ble_eq_true rfl⟩ hM.hcs rfl hl.1 rfl rfl (Nat.le_of_ble_eq_true rfl) dX1_listInto_35 (fun H locs hw => ?_)
        refine lv_istore (lv' := [(6, .int x7), (0, .ref v0), (1, .ref v1), (2, .int v2), (3, .int v3), (4, .int v4), (5, .int v5)]) hx hb dX1_listInto_38 hl (by decide) rfl (fun ls hl => ?_)
        refine lv_iload hx hb dX1_listInto_40 (lv_at hl 0 rfl) ?_
        refine lv_iconst (v := (-1)) hx hb dX1_listInto_42 (by decide) ?_
        refine lv_icmp_ne (tgt := 49) hx hb dX1_listInto_43 (by decide) (fun c8 => ?_) (fun c8 => ?_)
        · have hf := (if_neg c8).symm.trans hf
          refine lv_aload_n hx hb dX1_listInto_49 rfl (lv_at hl 2 rfl) ?_
          refine lv_iload hx hb dX1_listInto_50 (lv_at hl 6 rfl) ?_
          refine lv_iload hx hb dX1_listInto_52 (lv_at hl 0 rfl) ?_
          refine lv_bipush (v := 9) hx hb dX1_listInto_54 (by decide) ?_
          refine lv_icmp_ne (tgt := 67) hx hb dX1_listInto_56 (by decide) (fun c9 => ?_) (fun c9 => ?_)
          · have hf := (if_neg c9).symm.trans hf
            refine lv_iload_n hx hb dX1_listInto_67 rfl (lv_at hl 3 rfl) ?_
            refine lv_bipush (v := 10) hx hb dX1_listInto_68 (by decide) ?_
            refine lv_imul hx hb dX1_listInto_70 ?_
            refine lv_iload hx hb dX1_listInto_71 (lv_at hl 0 rfl) ?_
            refine lv_iadd hx hb dX1_listInto_73 ?_
            refine lv_i2l (v := (Int32.toInt64 ((v2 * 10) + x7))) hx hb dX1_listInto_74 rfl ?_
            exact w_X1_listInto_75 G B hr hlk ih z6 h5 v0 v1 v2 v3 v4 v5 x7 (Int32.toInt64 ((v2 * 10) + x7)) v5 v1 _ _ _ hw hM (lv_sub hl [1, 2, 3, 4, 5, 6, 0] rfl) hf
          · have hf := (if_pos c9).symm.trans hf
            refine lv_bipush (v := 100) hx hb dX1_listInto_59 (by decide) ?_
            refine lv_iload_n hx hb dX1_listInto_61 rfl (lv_at hl 3 rfl) ?_
            refine lv_iadd hx hb dX1_listInto_62 ?_
            refine lv_i2l (v := (Int32.toInt64 (100 + v2))) hx hb dX1_listInto_63 rfl ?_
            refine lv_goto (tgt := 75) hx hb dX1_listInto_64 (by decide) ?_
            exact w_X1_listInto_75 G B hr hlk ih z6 h5 v0 v1 v2 v3 v4 v5 x7 (Int32.toInt64 (100 + v2)) v5 v1 _ _ _ hw hM (lv_sub hl [1, 2, 3, 4, 5, 6, 0] rfl) hf
        · have hf := (if_pos c8).symm.trans hf
          refine lv_goto (tgt := 95) hx hb dX1_listInto_46 (by decide) ?_
          refine lv_iload hx hb dX1_listInto_95 (lv_at hl 5 rfl) ?_
          obtain ⟨rfl, rfl, rfl⟩ := so3 hf
          exact q_iret B hw hM.hz hM.hc0 hr hlk dX1_listInto_97
set_option maxHeartbeats 4000000 in
theorem c_X1_listInto {l : Launch} {s0 : State} {E : Ev} (G : Gl s0 E) {n : Nat} {z : Sh} {h : Hp} {v0 : Nat} {v1 : Nat} {v2 : Int32} {r : Int32} {h' : Hp} {zE : Sh} (hf : f_X1_listInto n z h v0 v1 v2 = some (r, h', zE)) : Ca l s0 E yX1_listInto cX1_listInto 7 (some .int) 26 1327 [.ref v0, .ref v1, .int v2] z zE h h' (some (.int r)) := by
  refine Ca.of G (by decide +kernel) (Nat.le_of_ble_eq_true rfl) (mo_X1_listInto hf) ?_
  intro p e s m below meth c ls B hw hM hr hlk hnm0 hl
  have B : Bd p s0 s E m c cX1_listInto 7 RX1 := B
  have hx := B.1
  have hb := B.2.1
  have hl : lv_has ls 7 [(0, .ref v0), (1, .ref v1), (2, .int v2)] := hl
  unfold f_X1_listInto at hf
  obtain ⟨_, hf⟩ := if_some hf
  obtain ⟨_, hf⟩ := gd3_some hf
  refine lv_aload_n hx hb dX1_listInto_0 rfl (lv_at hl 0 rfl) ?_
  obtain ⟨a1, e, hf⟩ := ob hf
  refine q_getR e B hw fd_1_0.1 fd_1_0.2.1 fd_1_0.2.2.1 fd_1_0.2.2.2.1 fd_1_0.2.2.2.2 rfl tw_2_43 dX1_listInto_1 ?_
  obtain ⟨x2, e, hf⟩ := ob hf
  refine q_getIN e B hw fd_10_8.1 fd_10_8.2.1 fd_10_8.2.2.1 fd_10_8.2.2.2.1 fd_10_8.2.2.2.2 rfl tw_2_2 dX1_listInto_4 ?_
  refine lv_istore_n (lv' := [(3, .int x2), (0, .ref v0), (1, .ref v1), (2, .int v2)]) hx hb dX1_listInto_7 rfl hl (by decide) rfl (fun ls hl => ?_)
  refine lv_iconst (v := 0) hx hb dX1_listInto_8 (by decide) ?_
  refine lv_istore (lv' := [(4, .int 0), (3, .int x2), (0, .ref v0), (1, .ref v1), (2, .int v2)]) hx hb dX1_listInto_9 hl (by decide) rfl (fun ls hl => ?_)
  refine lv_iconst (v := 0) hx hb dX1_listInto_11 (by decide) ?_
  refine lv_istore (lv' := [(5, .int 0), (4, .int 0), (3, .int x2), (0, .ref v0), (1, .ref v1), (2, .int v2)]) hx hb dX1_listInto_12 hl (by decide) rfl (fun ls hl => ?_)
  exact w_X1_listInto_14 G B hr hlk  n z h v0 v1 v2 x2 0 0 _ _ _ hw hM (lv_sub hl [3, 4, 5, 2, 1, 0] rfl) hf
