/-! SecondLife$Chances.hopeFrom(II)J -/
def f_X0_hopeFrom_110 (n : Nat) (g_X0_hopeFrom : Sh → Hp → Nat → Int32 → Int32 → Option (Int64 × Hp × Sh)) (g_X0_hopeByYear : Sh → Hp → Nat → Int32 → Int32 → Int32 → Option (Int64 × Hp × Sh)) (g_X0_hopeByDrawing : Sh → Hp → Nat → Int32 → Int32 → Int32 → Option (Int64 × Hp × Sh))  : Nat → Sh → Hp → Nat → Int32 → Int32 → Nat → Int32 → Int64 → Int32 → Int32 → Option (Int64 × Hp × Sh)
  | 0, _, _, _, _, _, _, _, _, _, _ => none
  | i + 1, z, h, v0, v1, v2, v3, v4, v7, v9, v10 =>
    if v9 ≤ v10 then
      (gR z h 0 v0 0).bind fun a2 =>
      (gI z h 10 a2 7).bind fun x3 =>
      (f_X3_keep z h v3 v4 x3 v7).bind fun h4 =>
      some (v7, h4, z)
    else
      (ckK z v0 0).bind fun _ =>
      (g_X0_hopeByYear z h v0 v1 v2 v10).bind fun (x5, h6, z7) =>
      gd3 z7 <|
      (f_J9_max_f86c9 z7 h6 v7 x5).bind fun x8 =>
      (some (v10 + 1)).bind fun x9 =>
      (f_X0_hopeFrom_110 n g_X0_hopeFrom g_X0_hopeByYear g_X0_hopeByDrawing i) z7 h6 v0 v1 v2 v3 v4 x8 v9 x9
def F_X0_hopeFrom (n : Nat) (g_X0_hopeFrom : Sh → Hp → Nat → Int32 → Int32 → Option (Int64 × Hp × Sh)) (g_X0_hopeByYear : Sh → Hp → Nat → Int32 → Int32 → Int32 → Option (Int64 × Hp × Sh)) (g_X0_hopeByDrawing : Sh → Hp → Nat → Int32 → Int32 → Int32 → Option (Int64 × Hp × Sh)) (z : Sh) (h : Hp) (v0 : Nat) (v1 : Int32) (v2 : Int32) : Option (Int64 × Hp × Sh) :=
  if z.K v0 = 0 then
    gd3 z <|
    if 0 < v2 then
      (gR z h 0 v0 1).bind fun a2 =>
      (f_X1_knownMost z h a2 v1).bind fun x3 =>
      if x3 < v2 then
        some ((0 : Int64), h, z)
      else
        if v1 < 0 then
          some ((0 : Int64), h, z)
        else
          (gR z h 0 v0 3).bind fun a6 =>
          (aL z a6).bind fun x7 =>
          if v1 < x7 then
            (f_X0_keptHopes n z h v0).bind fun (o9, h10, z11) =>
            gd3 z11 <|
            (match o9 with
            | none =>
              none
            | some a12 =>
              (gR z11 h10 0 v0 3).bind fun a13 =>
              (ldI z11 h10 a13 v1).bind fun x14 =>
              (some ((x14 + v2) - 1)).bind fun x15 =>
              (gR z11 h10 0 v0 0).bind fun a16 =>
              (gI z11 h10 10 a16 7).bind fun x17 =>
              (f_X3_find z11 h10 a12 x15 x17).bind fun x18 =>
              if (lg_cmp x18 (-1)) = 0 then
                (f_X0_tenthsAt z11 h10 v0 v1).bind fun x20 =>
                (ckK z11 v0 0).bind fun _ =>
                (g_X0_hopeByDrawing z11 h10 v0 v1 v2 x20).bind fun (x21, h22, z23) =>
                gd3 z23 <|
                (gR z23 h22 0 v0 0).bind fun a24 =>
                (f_X10_openTrades z23 h22 a24 v1).bind fun x25 =>
                f_X0_hopeFrom_110 n g_X0_hopeFrom g_X0_hopeByYear g_X0_hopeByDrawing n z23 h22 v0 v1 v2 a12 x15 x21 x25 0
              else
                some (x18, h10, z11))
          else
            some ((0 : Int64), h, z)
    else
      (f_X0_tenthsAt z h v0 v1).bind fun x26 =>
      (f_X0_tens z h x26).bind fun x27 =>
      some (x27, h, z)
  else none
theorem moF_X0_hopeFrom {n : Nat} {g_X0_hopeFrom : Sh → Hp → Nat → Int32 → Int32 → Option (Int64 × Hp × Sh)} {g_X0_hopeByYear : Sh → Hp → Nat → Int32 → Int32 → Int32 → Option (Int64 × Hp × Sh)} {g_X0_hopeByDrawing : Sh → Hp → Nat → Int32 → Int32 → Int32 → Option (Int64 × Hp × Sh)} {z : Sh} {h : Hp} {v0 : Nat} {v1 : Int32} {v2 : Int32} {r : Int64} {h' : Hp} {zE : Sh} (hf : F_X0_hopeFrom n g_X0_hopeFrom g_X0_hopeByYear g_X0_hopeByDrawing z h v0 v1 v2 = some (r, h', zE)) : z.sz ≤ zE.sz ∧ z.sl ≤ zE.sl := by
  unfold F_X0_hopeFrom at hf
  exact (gd3_some (if_some hf).2).1
def F_X0_hopeByYear (n : Nat) (g_X0_hopeFrom : Sh → Hp → Nat → Int32 → Int32 → Option (Int64 × Hp × Sh)) (g_X0_hopeByYear : Sh → Hp → Nat → Int32 → Int32 → Int32 → Option (Int64 × Hp × Sh)) (g_X0_hopeByDrawing : Sh → Hp → Nat → Int32 → Int32 → Int32 → Option (Int64 × Hp × Sh)) (z : Sh) (h : Hp) (v0 : Nat) (v1 : Int32) (v2 : Int32) (v3 : Int32) : Option (Int64 × Hp × Sh) :=
  if z.K v0 = 0 then
    gd3 z <|
    (gR z h 0 v0 0).bind fun a1 =>
    (gR z h 10 a1 3).bind fun a2 =>
    (gI z h 8 a2 4).bind fun x3 =>
    (gR z h 0 v0 0).bind fun a4 =>
    (f_X10_afterYear z h a4 v1 v3).bind fun x5 =>
    (gR z h 0 v0 0).bind fun a6 =>
    (f_X10_worthOf n z h a6 v1 v3).bind fun (x7, h8, z9) =>
    gd3 z9 <|
    (ckK z9 v0 0).bind fun _ =>
    (g_X0_hopeFrom z9 h8 v0 x5 (v2 - x7)).bind fun (x10, h11, z12) =>
    gd3 z12 <|
    (f_X0_tenthsAt z12 h11 v0 v1).bind fun x13 =>
    (ckK z12 v0 0).bind fun _ =>
    (g_X0_hopeByDrawing z12 h11 v0 v1 v2 (x13 - 1)).bind fun (x14, h15, z16) =>
    gd3 z16 <|
    some ((((Int32.toInt64 (10 - x3)) * x10) + ((Int32.toInt64 x3) * x14)), h15, z16)
  else none
theorem moF_X0_hopeByYear {n : Nat} {g_X0_hopeFrom : Sh → Hp → Nat → Int32 → Int32 → Option (Int64 × Hp × Sh)} {g_X0_hopeByYear : Sh → Hp → Nat → Int32 → Int32 → Int32 → Option (Int64 × Hp × Sh)} {g_X0_hopeByDrawing : Sh → Hp → Nat → Int32 → Int32 → Int32 → Option (Int64 × Hp × Sh)} {z : Sh} {h : Hp} {v0 : Nat} {v1 : Int32} {v2 : Int32} {v3 : Int32} {r : Int64} {h' : Hp} {zE : Sh} (hf : F_X0_hopeByYear n g_X0_hopeFrom g_X0_hopeByYear g_X0_hopeByDrawing z h v0 v1 v2 v3 = some (r, h', zE)) : z.sz ≤ zE.sz ∧ z.sl ≤ zE.sl := by
  unfold F_X0_hopeByYear at hf
  exact (gd3_some (if_some hf).2).1
def F_X0_hopeByDrawing (n : Nat) (g_X0_hopeFrom : Sh → Hp → Nat → Int32 → Int32 → Option (Int64 × Hp × Sh)) (g_X0_hopeByYear : Sh → Hp → Nat → Int32 → Int32 → Int32 → Option (Int64 × Hp × Sh)) (g_X0_hopeByDrawing : Sh → Hp → Nat → Int32 → Int32 → Int32 → Option (Int64 × Hp × Sh)) (z : Sh) (h : Hp) (v0 : Nat) (v1 : Int32) (v2 : Int32) (v3 : Int32) : Option (Int64 × Hp × Sh) :=
  if z.K v0 = 0 then
    gd3 z <|
    (gR z h 0 v0 0).bind fun a1 =>
    (f_X10_afterDrawing z h a1 v1).bind fun x2 =>
    if x2 = (-1) then
      some ((0 : Int64), h, z)
    else
      (ckK z v0 0).bind fun _ =>
      (g_X0_hopeFrom z h v0 x2 v2).bind fun (x4, h5, z6) =>
      gd3 z6 <|
      (f_X0_tenthsAt z6 h5 v0 x2).bind fun x7 =>
      (f_X0_tens z6 h5 (v3 - x7)).bind fun x8 =>
      some ((x4 * x8), h5, z6)
  else none
theorem moF_X0_hopeByDrawing {n : Nat} {g_X0_hopeFrom : Sh → Hp → Nat → Int32 → Int32 → Option (Int64 × Hp × Sh)} {g_X0_hopeByYear : Sh → Hp → Nat → Int32 → Int32 → Int32 → Option (Int64 × Hp × Sh)} {g_X0_hopeByDrawing : Sh → Hp → Nat → Int32 → Int32 → Int32 → Option (Int64 × Hp × Sh)} {z : Sh} {h : Hp} {v0 : Nat} {v1 : Int32} {v2 : Int32} {v3 : Int32} {r : Int64} {h' : Hp} {zE : Sh} (hf : F_X0_hopeByDrawing n g_X0_hopeFrom g_X0_hopeByYear g_X0_hopeByDrawing z h v0 v1 v2 v3 = some (r, h', zE)) : z.sz ≤ zE.sz ∧ z.sl ≤ zE.sl := by
  unfold F_X0_hopeByDrawing at hf
  exact (gd3_some (if_some hf).2).1
def rc_X0_hopeFrom (n : Nat) : Nat → (Sh → Hp → Nat → Int32 → Int32 → Option (Int64 × Hp × Sh)) × (Sh → Hp → Nat → Int32 → Int32 → Int32 → Option (Int64 × Hp × Sh)) × (Sh → Hp → Nat → Int32 → Int32 → Int32 → Option (Int64 × Hp × Sh))
  | 0 => (fun _ _ _ _ _ => none, fun _ _ _ _ _ _ => none, fun _ _ _ _ _ _ => none)
  | i + 1 => (F_X0_hopeFrom n (rc_X0_hopeFrom n i).1 (rc_X0_hopeFrom n i).2.1 (rc_X0_hopeFrom n i).2.2, F_X0_hopeByYear n (rc_X0_hopeFrom n i).1 (rc_X0_hopeFrom n i).2.1 (rc_X0_hopeFrom n i).2.2, F_X0_hopeByDrawing n (rc_X0_hopeFrom n i).1 (rc_X0_hopeFrom n i).2.1 (rc_X0_hopeFrom n i).2.2)
def f_X0_hopeFrom (n : Nat) (z : Sh) (h : Hp) (v0 : Nat) (v1 : Int32) (v2 : Int32) : Option (Int64 × Hp × Sh) := (rc_X0_hopeFrom n 60).1 z h v0 v1 v2
theorem k_X0_hopeFrom {n : Nat} {z : Sh} {h : Hp} {v0 : Nat} {v1 : Int32} {v2 : Int32} {w : Int64 × Hp × Sh} (hf : f_X0_hopeFrom n z h v0 v1 v2 = some w) : z.K v0 = 0 := by
  have hf : F_X0_hopeFrom n (rc_X0_hopeFrom n 59).1 (rc_X0_hopeFrom n 59).2.1 (rc_X0_hopeFrom n 59).2.2 z h v0 v1 v2 = some w := hf
  unfold F_X0_hopeFrom at hf
  exact (if_some hf).1
theorem mo_X0_hopeFrom {n : Nat} {z : Sh} {h : Hp} {v0 : Nat} {v1 : Int32} {v2 : Int32} {r : Int64} {h' : Hp} {zE : Sh} (hf : f_X0_hopeFrom n z h v0 v1 v2 = some (r, h', zE)) : z.sz ≤ zE.sz ∧ z.sl ≤ zE.sl   := moF_X0_hopeFrom (n := n) (g_X0_hopeFrom := (rc_X0_hopeFrom n 59).1) (g_X0_hopeByYear := (rc_X0_hopeFrom n 59).2.1) (g_X0_hopeByDrawing := (rc_X0_hopeFrom n 59).2.2) hf
def f_X0_hopeByYear (n : Nat) (z : Sh) (h : Hp) (v0 : Nat) (v1 : Int32) (v2 : Int32) (v3 : Int32) : Option (Int64 × Hp × Sh) := (rc_X0_hopeFrom n 60).2.1 z h v0 v1 v2 v3
theorem k_X0_hopeByYear {n : Nat} {z : Sh} {h : Hp} {v0 : Nat} {v1 : Int32} {v2 : Int32} {v3 : Int32} {w : Int64 × Hp × Sh} (hf : f_X0_hopeByYear n z h v0 v1 v2 v3 = some w) : z.K v0 = 0 := by
  have hf : F_X0_hopeByYear n (rc_X0_hopeFrom n 59).1 (rc_X0_hopeFrom n 59).2.1 (rc_X0_hopeFrom n 59).2.2 z h v0 v1 v2 v3 = some w := hf
  unfold F_X0_hopeByYear at hf
  exact (if_some hf).1
theorem mo_X0_hopeByYear {n : Nat} {z : Sh} {h : Hp} {v0 : Nat} {v1 : Int32} {v2 : Int32} {v3 : Int32} {r : Int64} {h' : Hp} {zE : Sh} (hf : f_X0_hopeByYear n z h v0 v1 v2 v3 = some (r, h', zE)) : z.sz ≤ zE.sz ∧ z.sl ≤ zE.sl   := moF_X0_hopeByYear (n := n) (g_X0_hopeFrom := (rc_X0_hopeFrom n 59).1) (g_X0_hopeByYear := (rc_X0_hopeFrom n 59).2.1) (g_X0_hopeByDrawing := (rc_X0_hopeFrom n 59).2.2) hf
def f_X0_hopeByDrawing (n : Nat) (z : Sh) (h : Hp) (v0 : Nat) (v1 : Int32) (v2 : Int32) (v3 : Int32) : Option (Int64 × Hp × Sh) := (rc_X0_hopeFrom n 60).2.2 z h v0 v1 v2 v3
theorem k_X0_hopeByDrawing {n : Nat} {z : Sh} {h : Hp} {v0 : Nat} {v1 : Int32} {v2 : Int32} {v3 : Int32} {w : Int64 × Hp × Sh} (hf : f_X0_hopeByDrawing n z h v0 v1 v2 v3 = some w) : z.K v0 = 0 := by
  have hf : F_X0_hopeByDrawing n (rc_X0_hopeFrom n 59).1 (rc_X0_hopeFrom n 59).2.1 (rc_X0_hopeFrom n 59).2.2 z h v0 v1 v2 v3 = some w := hf
  unfold F_X0_hopeByDrawing at hf
  exact (if_some hf).1
theorem mo_X0_hopeByDrawing {n : Nat} {z : Sh} {h : Hp} {v0 : Nat} {v1 : Int32} {v2 : Int32} {v3 : Int32} {r : Int64} {h' : Hp} {zE : Sh} (hf : f_X0_hopeByDrawing n z h v0 v1 v2 v3 = some (r, h', zE)) : z.sz ≤ zE.sz ∧ z.sl ≤ zE.sl   := moF_X0_hopeByDrawing (n := n) (g_X0_hopeFrom := (rc_X0_hopeFrom n 59).1) (g_X0_hopeByYear := (rc_X0_hopeFrom n 59).2.1) (g_X0_hopeByDrawing := (rc_X0_hopeFrom n 59).2.2) hf
set_option maxHeartbeats 4000000 in
theorem w_X0_hopeFrom_110 {p : Program} {l : Launch} {e : Env} {s : State} {m : MethodId} {args : Array Value} {below : List Frame} {meth : Method} {c : Code} {s0 : State} {E : Ev} {z0 : Sh} {d : Nat} {g_X0_hopeFrom : Sh → Hp → Nat → Int32 → Int32 → Option (Int64 × Hp × Sh)} {g_X0_hopeByYear : Sh → Hp → Nat → Int32 → Int32 → Int32 → Option (Int64 × Hp × Sh)} {g_X0_hopeByDrawing : Sh → Hp → Nat → Int32 → Int32 → Int32 → Option (Int64 × Hp × Sh)} {n : Nat} {r : Int64} {h' : Hp} {zE : Sh} (G : Gl s0 E) (B : Bd p s0 s E m c cX0_hopeFrom 11 RX0) (hr : meth.sig.returnType = (some .long)) (hlk : meth.locks = false) (H_X0_hopeFrom : ∀ {z : Sh} {h : Hp} {v0 : Nat} {v1 : Int32} {v2 : Int32} {r : Int64} {h' : Hp} {zE : Sh}, g_X0_hopeFrom z h v0 v1 v2 = some (r, h', zE) → Ca l s0 E yX0_hopeFrom cX0_hopeFrom 11 (some .long) (5 + d) (97 + 60 * d) [.ref v0, .int v1, .int v2] z zE h h' (some (.long r))) (H_X0_hopeByYear : ∀ {z : Sh} {h : Hp} {v0 : Nat} {v1 : Int32} {v2 : Int32} {v3 : Int32} {r : Int64} {h' : Hp} {zE : Sh}, g_X0_hopeByYear z h v0 v1 v2 v3 = some (r, h', zE) → Ca l s0 E yX0_hopeByYear cX0_hopeByYear 7 (some .long) (5 + d) (97 + 60 * d) [.ref v0, .int v1, .int v2, .int v3] z zE h h' (some (.long r))) (H_X0_hopeByDrawing : ∀ {z : Sh} {h : Hp} {v0 : Nat} {v1 : Int32} {v2 : Int32} {v3 : Int32} {r : Int64} {h' : Hp} {zE : Sh}, g_X0_hopeByDrawing z h v0 v1 v2 v3 = some (r, h', zE) → Ca l s0 E yX0_hopeByDrawing cX0_hopeByDrawing 5 (some .long) (5 + d) (97 + 60 * d) [.ref v0, .int v1, .int v2, .int v3] z zE h h' (some (.long r))) (Hm_X0_hopeFrom : ∀ {z : Sh} {h : Hp} {v0 : Nat} {v1 : Int32} {v2 : Int32} {r : Int64} {h' : Hp} {zE : Sh}, g_X0_hopeFrom z h v0 v1 v2 = some (r, h', zE) → z.sz ≤ zE.sz ∧ z.sl ≤ zE.sl) (Hm_X0_hopeByYear : ∀ {z : Sh} {h : Hp} {v0 : Nat} {v1 : Int32} {v2 : Int32} {v3 : Int32} {r : Int64} {h' : Hp} {zE : Sh}, g_X0_hopeByYear z h v0 v1 v2 v3 = some (r, h', zE) → z.sz ≤ zE.sz ∧ z.sl ≤ zE.sl) (Hm_X0_hopeByDrawing : ∀ {z : Sh} {h : Hp} {v0 : Nat} {v1 : Int32} {v2 : Int32} {v3 : Int32} {r : Int64} {h' : Hp} {zE : Sh}, g_X0_hopeByDrawing z h v0 v1 v2 v3 = some (r, h', zE) → z.sz ≤ zE.sz ∧ z.sl ≤ zE.sl) : ∀ (i : Nat), ∀ (z : Sh) (h : Hp) (v0 : Nat) (v1 : Int32) (v2 : Int32) (v3 : Nat) (v4 : Int32) (v7 : Int64) (v9 : Int32) (v10 : Int32) (H : Heap) (locs : List Loc) (ls : Array Slot), Pw s0 s E z h H locs → Mo s0 s z0 z zE → lv_has ls 11 [(0, .ref v0), (1, .int v1), (2, .int v2), (3, .ref v3), (4, .int v4), (7, .long v7), (9, .int v9), (10, .int v10)] → f_X0_hopeFrom_110 n g_X0_hopeFrom g_X0_hopeByYear g_X0_hopeByDrawing i z h v0 v1 v2 v3 v4 v7 v9 v10 = some (r, h', zE) → W p l e (rmA (5 + (d + 1)) (97 + 60 * (d + 1)) z0 zE) s m args below meth c H locs (z.sz - z0.sz) (z.sl - z0.sl) (Zt below s0 E zE h' (some (.long r)) args s (zE.sz - z0.sz) (zE.sl - z0.sl)) (F0 m 110 ls []) := by
  have hx := B.1
  have hb := B.2.1
  intro i
  induction i with
  | zero =>
    intro z h v0 v1 v2 v3 v4 v7 v9 v10 H locs ls hw hM hl hf
    have hf := (f_X0_hopeFrom_110.eq_1 ..).symm.trans hf
    cases hf
  | succ i ih =>
    intro z h v0 v1 v2 v3 v4 v7 v9 v10 H locs ls hw hM hl hf
    have hf := (f_X0_hopeFrom_110.eq_2 ..).symm.trans hf
    refine lv_iload hx hb dX0_hopeFrom_110 (lv_at hl 7 rfl) ?_
    refine lv_iload hx hb dX0_hopeFrom_112 (lv_at hl 6 rfl) ?_
    refine lv_icmp_ge (tgt := 138) hx hb dX0_hopeFrom_114 (by decide) (fun c1 => ?_) (fun c1 => ?_)
    · have hf := (if_pos c1).symm.trans hf
      refine lv_aload_n hx hb dX0_hopeFrom_138 rfl (lv_at hl 3 rfl) ?_
      refine lv_iload hx hb dX0_hopeFrom_139 (lv_at hl 4 rfl) ?_
      refine lv_aload_n hx hb dX0_hopeFrom_141 rfl (lv_at hl 0 rfl) ?_
      obtain ⟨a2, e, hf⟩ := ob hf
      refine q_getR e B hw fd_0_0.1 fd_0_0.2.1 fd_0_0.2.2.1 fd_0_0.2.2.2.1 fd_0_0.2.2.2.2 rfl tw_2_64 dX0_hopeFrom_142 ?_
      obtain ⟨x3, e, hf⟩ := ob hf
      refine q_getIN e B hw fd_10_7.1 fd_10_7.2.1 fd_10_7.2.2.1 fd_10_7.2.2.2.1 fd_10_7.2.2.2.2 rfl tw_1_239 dX0_hopeFrom_145 ?_
      refine lv_lload hx hb dX0_hopeFrom_148 (lv_at hl 5 rfl) ?_
      obtain ⟨h4, e, hf⟩ := ob hf
      refine q_callVN (As := [.int v4, .int x3, .long v7]) (rest := []) (st1 := []) (c_X3_keep G e) B hw hM.hz hM.hc0 (k_X3_keep e) (by decide) (ci := 3) rfl rfl my_X3_keep mv_X3_keep tw_5_79 ⟨by simp only [rmO, rmA]; omega, by simp only [rmO, rmA]; omega⟩ hM.hcs rfl hl.1 rfl rfl (Nat.le_of_ble_eq_true rfl) dX0_hopeFrom_150 (fun H locs hw => ?_)
      refine lv_lload hx hb dX0_hopeFrom_153 (lv_at hl 5 rfl) ?_
      obtain ⟨rfl, rfl, rfl⟩ := so3 hf
      exact q_lret B hw hM.hz hM.hc0 hr hlk dX0_hopeFrom_155
    · have hf := (if_neg c1).symm.trans hf
      refine lv_lload hx hb dX0_hopeFrom_117 (lv_at hl 5 rfl) ?_
      refine lv_aload_n hx hb dX0_hopeFrom_119 rfl (lv_at hl 0 rfl) ?_
      refine lv_iload_n hx hb dX0_hopeFrom_120 rfl (lv_at hl 1 rfl) ?_
      refine lv_iload_n hx hb dX0_hopeFrom_121 rfl (lv_at hl 2 rfl) ?_
      refine lv_iload hx hb dX0_hopeFrom_122 (lv_at hl 7 rfl) ?_
      obtain ⟨_, eK, hf⟩ := ob hf
      obtain ⟨⟨x5, h6, z7⟩, e, hf⟩ := ob hf
      obtain ⟨hg, hf⟩ := gd3_some hf
      refine q_callVA (As := [.int v1, .int v2, .int v10]) (rest := [.long v7]) (st1 := [.long x5, .long v7]) (H_X0_hopeByYear e) (Hm_X0_hopeByYear e) hg B hw hM ((if_some eK).1) (by decide) (ci := 0) rfl rfl my_X0_hopeByYear mv_X0_hopeByYear tw_5_133 ⟨by omega, by omega⟩ rfl hl.1 rfl rfl (Nat.le_of_ble_eq_true rfl) dX0_hopeFrom_124 (fun H locs hw hM => ?_)
      obtain ⟨x8, e, hf⟩ := ob hf
      refine q_callS (As := [.long v7, .long x5]) (rest := []) (st1 := [.long x8]) (c_J9_max_f86c9 G e) B hw hM.hz hM.hc0 my_J9_max_f86c9 mv_J9_max_f86c9 tw_5_76 ⟨by simp only [rmO, rmA]; omega, by simp only [rmO, rmA]; omega⟩ hM.hcs rfl hl.1 rfl rfl (Nat.le_of_ble_eq_true rfl) dX0_hopeFrom_127 (fun H locs hw => ?_)
      refine lv_lstore (lv' := [(7, .long x8), (0, .ref v0), (1, .int v1), (2, .int v2), (3, .ref v3), (4, .int v4), (9, .int v9), (10, .int v10)]) hx hb dX0_hopeFrom_130 hl (by decide) rfl (fun ls hl => ?_)
      obtain ⟨x9, e, hf⟩ := ob hf
      refine lv_iinc (v := x9) (lv' := [(10, .int x9), (7, .long x8), (0, .ref v0), (1, .int v1), (2, .int v2), (3, .ref v3), (4, .int v4), (9, .int v9)]) hx hb dX0_hopeFrom_132 hl (k := 7) rfl (Option.some.inj e) (by decide) rfl (fun ls hl => ?_)
      refine lv_goto (tgt := 110) hx hb dX0_hopeFrom_135 (by decide) ?_
      exact ih z7 h6 v0 v1 v2 v3 v4 x8 v9 x9 _ _ _ hw hM (lv_sub hl [2, 3, 4, 5, 6, 1, 7, 0] rfl) hf
set_option maxHeartbeats 4000000 in
theorem co_X0_hopeFrom {l : Launch} {s0 : State} {E : Ev} (G : Gl s0 E) {n : Nat} {d : Nat} {g_X0_hopeFrom : Sh → Hp → Nat → Int32 → Int32 → Option (Int64 × Hp × Sh)} {g_X0_hopeByYear : Sh → Hp → Nat → Int32 → Int32 → Int32 → Option (Int64 × Hp × Sh)} {g_X0_hopeByDrawing : Sh → Hp → Nat → Int32 → Int32 → Int32 → Option (Int64 × Hp × Sh)} (H_X0_hopeFrom : ∀ {z : Sh} {h : Hp} {v0 : Nat} {v1 : Int32} {v2 : Int32} {r : Int64} {h' : Hp} {zE : Sh}, g_X0_hopeFrom z h v0 v1 v2 = some (r, h', zE) → Ca l s0 E yX0_hopeFrom cX0_hopeFrom 11 (some .long) (5 + d) (97 + 60 * d) [.ref v0, .int v1, .int v2] z zE h h' (some (.long r))) (H_X0_hopeByYear : ∀ {z : Sh} {h : Hp} {v0 : Nat} {v1 : Int32} {v2 : Int32} {v3 : Int32} {r : Int64} {h' : Hp} {zE : Sh}, g_X0_hopeByYear z h v0 v1 v2 v3 = some (r, h', zE) → Ca l s0 E yX0_hopeByYear cX0_hopeByYear 7 (some .long) (5 + d) (97 + 60 * d) [.ref v0, .int v1, .int v2, .int v3] z zE h h' (some (.long r))) (H_X0_hopeByDrawing : ∀ {z : Sh} {h : Hp} {v0 : Nat} {v1 : Int32} {v2 : Int32} {v3 : Int32} {r : Int64} {h' : Hp} {zE : Sh}, g_X0_hopeByDrawing z h v0 v1 v2 v3 = some (r, h', zE) → Ca l s0 E yX0_hopeByDrawing cX0_hopeByDrawing 5 (some .long) (5 + d) (97 + 60 * d) [.ref v0, .int v1, .int v2, .int v3] z zE h h' (some (.long r))) (Hm_X0_hopeFrom : ∀ {z : Sh} {h : Hp} {v0 : Nat} {v1 : Int32} {v2 : Int32} {r : Int64} {h' : Hp} {zE : Sh}, g_X0_hopeFrom z h v0 v1 v2 = some (r, h', zE) → z.sz ≤ zE.sz ∧ z.sl ≤ zE.sl) (Hm_X0_hopeByYear : ∀ {z : Sh} {h : Hp} {v0 : Nat} {v1 : Int32} {v2 : Int32} {v3 : Int32} {r : Int64} {h' : Hp} {zE : Sh}, g_X0_hopeByYear z h v0 v1 v2 v3 = some (r, h', zE) → z.sz ≤ zE.sz ∧ z.sl ≤ zE.sl) (Hm_X0_hopeByDrawing : ∀ {z : Sh} {h : Hp} {v0 : Nat} {v1 : Int32} {v2 : Int32} {v3 : Int32} {r : Int64} {h' : Hp} {zE : Sh}, g_X0_hopeByDrawing z h v0 v1 v2 v3 = some (r, h', zE) → z.sz ≤ zE.sz ∧ z.sl ≤ zE.sl) {z : Sh} {h : Hp} {v0 : Nat} {v1 : Int32} {v2 : Int32} {r : Int64} {h' : Hp} {zE : Sh} (hf : F_X0_hopeFrom n g_X0_hopeFrom g_X0_hopeByYear g_X0_hopeByDrawing z h v0 v1 v2 = some (r, h', zE)) : Ca l s0 E yX0_hopeFrom cX0_hopeFrom 11 (some .long) (5 + (d + 1)) (97 + 60 * (d + 1)) [.ref v0, .int v1, .int v2] z zE h h' (some (.long r)) := by
  refine Ca.of G (by decide +kernel) (Nat.le_of_ble_eq_true rfl) (moF_X0_hopeFrom hf) ?_
  intro p e s m below meth c ls B hw hM hr hlk hnm0 hl
  have B : Bd p s0 s E m c cX0_hopeFrom 11 RX0 := B
  have hx := B.1
  have hb := B.2.1
  have hl : lv_has ls 11 [(0, .ref v0), (1, .int v1), (2, .int v2)] := hl
  unfold F_X0_hopeFrom at hf
  obtain ⟨_, hf⟩ := if_some hf
  obtain ⟨_, hf⟩ := gd3_some hf
  refine lv_iload_n hx hb dX0_hopeFrom_0 rfl (lv_at hl 2 rfl) ?_
  refine lv_if_gt (tgt := 13) hx hb dX0_hopeFrom_1 (by decide) (fun c1 => ?_) (fun c1 => ?_)
  · have hf := (if_pos c1).symm.trans hf
    refine lv_iload_n hx hb dX0_hopeFrom_13 rfl (lv_at hl 2 rfl) ?_
    refine lv_aload_n hx hb dX0_hopeFrom_14 rfl (lv_at hl 0 rfl) ?_
    obtain ⟨a2, e, hf⟩ := ob hf
    refine q_getR e B hw fd_0_1.1 fd_0_1.2.1 fd_0_1.2.2.1 fd_0_1.2.2.2.1 fd_0_1.2.2.2.2 rfl tw_2_65 dX0_hopeFrom_15 ?_
    refine lv_iload_n hx hb dX0_hopeFrom_18 rfl (lv_at hl 1 rfl) ?_
    obtain ⟨x3, e, hf⟩ := ob hf
    refine q_callVN (As := [.int v1]) (rest := [.int v2]) (st1 := [.int x3, .int v2]) (c_X1_knownMost G e) B hw hM.hz hM.hc0 (k_X1_knownMost e) (by decide) (ci := 1) rfl rfl my_X1_knownMost mv_X1_knownMost tw_5_116 ⟨by simp only [rmO, rmA]; omega, by simp only [rmO, rmA]; omega⟩ hM.hcs rfl hl.1 rfl rfl (Nat.le_of_ble_eq_true rfl) dX0_hopeFrom_19 (fun H locs hw => ?_)
    refine lv_icmp_gt (tgt := 38) hx hb dX0_hopeFrom_22 (by decide) (fun c4 => ?_) (fun c4 => ?_)
    · have hf := (if_pos c4).symm.trans hf
      refine lv_lconst (v := 0) hx hb dX0_hopeFrom_38 (by decide) ?_
      obtain ⟨rfl, rfl, rfl⟩ := so3 hf
      exact q_lret B hw hM.hz hM.hc0 hr hlk dX0_hopeFrom_39
    · have hf := (if_neg c4).symm.trans hf
      refine lv_iload_n hx hb dX0_hopeFrom_25 rfl (lv_at hl 1 rfl) ?_
      refine lv_if_lt (tgt := 38) hx hb dX0_hopeFrom_26 (by decide) (fun c5 => ?_) (fun c5 => ?_)
      · have hf := (if_pos c5).symm.trans hf
        refine lv_lconst (v := 0) hx hb dX0_hopeFrom_38 (by decide) ?_
        obtain ⟨rfl, rfl, rfl⟩ := so3 hf
        exact q_lret B hw hM.hz hM.hc0 hr hlk dX0_hopeFrom_39
      · have hf := (if_neg c5).symm.trans hf
        refine lv_iload_n hx hb dX0_hopeFrom_29 rfl (lv_at hl 1 rfl) ?_
        refine lv_aload_n hx hb dX0_hopeFrom_30 rfl (lv_at hl 0 rfl) ?_
        obtain ⟨a6, e, hf⟩ := ob hf
        refine q_getR e B hw fd_0_3.1 fd_0_3.2.1 fd_0_3.2.2.1 fd_0_3.2.2.2.1 fd_0_3.2.2.2.2 rfl tw_2_67 dX0_hopeFrom_31 ?_
        obtain ⟨x7, e, hf⟩ := ob hf
        refine q_len e B hw dX0_hopeFrom_34 ?_
        refine lv_icmp_lt (tgt := 40) hx hb dX0_hopeFrom_35 (by decide) (fun c8 => ?_) (fun c8 => ?_)
        · have hf := (if_pos c8).symm.trans hf
          refine lv_aload_n hx hb dX0_hopeFrom_40 rfl (lv_at hl 0 rfl) ?_
          obtain ⟨⟨o9, h10, z11⟩, e, hf⟩ := ob hf
          obtain ⟨hg, hf⟩ := gd3_some hf
          refine q_callVA (As := []) (rest := []) (st1 := [va_rf o9]) (c_X0_keptHopes G e) (mo_X0_keptHopes e) hg B hw hM (k_X0_keptHopes e) (by decide) (ci := 0) rfl rfl my_X0_keptHopes mv_X0_keptHopes tw_5_120 ⟨by omega, by omega⟩ rfl hl.1 rfl rfl (Nat.le_of_ble_eq_true rfl) dX0_hopeFrom_41 (fun H locs hw hM => ?_)
          rcases o9 with _ | a12
          · cases hf
          · refine lv_astore_n (lv' := [(3, .ref a12), (0, .ref v0), (1, .int v1), (2, .int v2)]) hx hb dX0_hopeFrom_44 rfl hl (by decide) rfl (fun ls hl => ?_)
            refine lv_aload_n hx hb dX0_hopeFrom_45 rfl (lv_at hl 1 rfl) ?_
            obtain ⟨a13, e, hf⟩ := ob hf
            refine q_getR e B hw fd_0_3.1 fd_0_3.2.1 fd_0_3.2.2.1 fd_0_3.2.2.2.1 fd_0_3.2.2.2.2 rfl tw_2_67 dX0_hopeFrom_46 ?_
            refine lv_iload_n hx hb dX0_hopeFrom_49 rfl (lv_at hl 2 rfl) ?_
            obtain ⟨x14, e, hf⟩ := ob hf
            refine q_ldI e B hw dX0_hopeFrom_50 ?_
            refine lv_iload_n hx hb dX0_hopeFrom_51 rfl (lv_at hl 3 rfl) ?_
            refine lv_iadd hx hb dX0_hopeFrom_52 ?_
            refine lv_iconst (v := 1) hx hb dX0_hopeFrom_53 (by decide) ?_
            refine lv_isub hx hb dX0_hopeFrom_54 ?_
            obtain ⟨x15, e, hf⟩ := ob hf
            refine q_nmI e ?_
            refine lv_istore (lv' := [(4, .int x15), (3, .ref a12), (0, .ref v0), (1, .int v1), (2, .int v2)]) hx hb dX0_hopeFrom_55 hl (by decide) rfl (fun ls hl => ?_)
            refine lv_aload_n hx hb dX0_hopeFrom_57 rfl (lv_at hl 1 rfl) ?_
            refine lv_iload hx hb dX0_hopeFrom_58 (lv_at hl 0 rfl) ?_
            refine lv_aload_n hx hb dX0_hopeFrom_60 rfl (lv_at hl 2 rfl) ?_
            obtain ⟨a16, e, hf⟩ := ob hf
            refine q_getR e B hw fd_0_0.1 fd_0_0.2.1 fd_0_0.2.2.1 fd_0_0.2.2.2.1 fd_0_0.2.2.2.2 rfl tw_2_64 dX0_hopeFrom_61 ?_
            obtain ⟨x17, e, hf⟩ := ob hf
            refine q_getIN e B hw fd_10_7.1 fd_10_7.2.1 fd_10_7.2.2.1 fd_10_7.2.2.2.1 fd_10_7.2.2.2.2 rfl tw_1_239 dX0_hopeFrom_64 ?_
            obtain ⟨x18, e, hf⟩ := ob hf
            refine q_callVN (As := [.int x15, .int x17]) (rest := []) (st1 := [.long x18]) (c_X3_find G e) B hw hM.hz hM.hc0 (k_X3_find e) (by decide) (ci := 3) rfl rfl my_X3_find mv_X3_find tw_5_50 ⟨by simp only [rmO, rmA]; omega, by simp only [rmO, rmA]; omega⟩ hM.hcs rfl hl.1 rfl rfl (Nat.le_of_ble_eq_true rfl) dX0_hopeFrom_67 (fun H locs hw => ?_)
            refine lv_lstore (lv' := [(5, .long x18), (4, .int x15), (3, .ref a12), (0, .ref v0), (1, .int v1), (2, .int v2)]) hx hb dX0_hopeFrom_70 hl (by decide) rfl (fun ls hl => ?_)
            refine lv_lload hx hb dX0_hopeFrom_72 (lv_at hl 0 rfl) ?_
            refine lv_ldc2 hx hb B.2.2.2.1 (B.w tw_5_51 rfl) dX0_hopeFrom_74 ?_
            refine W.lcmp hx hb dX0_hopeFrom_77 ?_
            refine lv_if_eq (tgt := 84) hx hb dX0_hopeFrom_78 (by decide) (fun c19 => ?_) (fun c19 => ?_)
            · have hf := (if_pos c19).symm.trans hf
              refine lv_aload_n hx hb dX0_hopeFrom_84 rfl (lv_at hl 3 rfl) ?_
              refine lv_iload_n hx hb dX0_hopeFrom_85 rfl (lv_at hl 4 rfl) ?_
              refine lv_iload_n hx hb dX0_hopeFrom_86 rfl (lv_at hl 5 rfl) ?_
              refine lv_aload_n hx hb dX0_hopeFrom_87 rfl (lv_at hl 3 rfl) ?_
              refine lv_iload_n hx hb dX0_hopeFrom_88 rfl (lv_at hl 4 rfl) ?_
              obtain ⟨x20, e, hf⟩ := ob hf
              refine q_callV (As := [.int v1]) (rest := [.int v2, .int v1, .ref v0]) (st1 := [.int x20, .int v2, .int v1, .ref v0]) (c_X0_tenthsAt G e) B hw hM.hz hM.hc0 (k_X0_tenthsAt e) (by decide) (ci := 0) rfl rfl my_X0_tenthsAt mv_X0_tenthsAt tw_5_52 ⟨by simp only [rmO, rmA]; omega, by simp only [rmO, rmA]; omega⟩ hM.hcs rfl hl.1 rfl rfl (Nat.le_of_ble_eq_true rfl) dX0_hopeFrom_89 (fun H locs hw => ?_)
              obtain ⟨_, eK, hf⟩ := ob hf
              obtain ⟨⟨x21, h22, z23⟩, e, hf⟩ := ob hf
              obtain ⟨hg, hf⟩ := gd3_some hf
              refine q_callVA (As := [.int v1, .int v2, .int x20]) (rest := []) (st1 := [.long x21]) (H_X0_hopeByDrawing e) (Hm_X0_hopeByDrawing e) hg B hw hM ((if_some eK).1) (by decide) (ci := 0) rfl rfl my_X0_hopeByDrawing mv_X0_hopeByDrawing tw_5_129 ⟨by omega, by omega⟩ rfl hl.1 rfl rfl (Nat.le_of_ble_eq_true rfl) dX0_hopeFrom_92 (fun H locs hw hM => ?_)
              refine lv_lstore (lv' := [(7, .long x21), (5, .long x18), (4, .int x15), (3, .ref a12), (0, .ref v0), (1, .int v1), (2, .int v2)]) hx hb dX0_hopeFrom_95 hl (by decide) rfl (fun ls hl => ?_)
              refine lv_aload_n hx hb dX0_hopeFrom_97 rfl (lv_at hl 4 rfl) ?_
              obtain ⟨a24, e, hf⟩ := ob hf
              refine q_getR e B hw fd_0_0.1 fd_0_0.2.1 fd_0_0.2.2.1 fd_0_0.2.2.2.1 fd_0_0.2.2.2.2 rfl tw_2_64 dX0_hopeFrom_98 ?_
              refine lv_iload_n hx hb dX0_hopeFrom_101 rfl (lv_at hl 5 rfl) ?_
              obtain ⟨x25, e, hf⟩ := ob hf
              refine q_callVN (As := [.int v1]) (rest := []) (st1 := [.int x25]) (c_X10_openTrades G e) B hw hM.hz hM.hc0 (k_X10_openTrades e) (by decide) (ci := 10) rfl rfl my_X10_openTrades mv_X10_openTrades tw_5_69 ⟨by simp only [rmO, rmA]; omega, by simp only [rmO, rmA]; omega⟩ hM.hcs rfl hl.1 rfl rfl (Nat.le_of_ble_eq_true rfl) dX0_hopeFrom_102 (fun H locs hw => ?_)
              refine lv_istore (lv' := [(9, .int x25), (7, .long x21), (5, .long x18), (4, .int x15), (3, .ref a12), (0, .ref v0), (1, .int v1), (2, .int v2)]) hx hb dX0_hopeFrom_105 hl (by decide) rfl (fun ls hl => ?_)
              refine lv_iconst (v := 0) hx hb dX0_hopeFrom_107 (by decide) ?_
              refine lv_istore (lv' := [(10, .int 0), (9, .int x25), (7, .long x21), (5, .long x18), (4, .int x15), (3, .ref a12), (0, .ref v0), (1, .int v1), (2, .int v2)]) hx hb dX0_hopeFrom_108 hl (by decide) rfl (fun ls hl => ?_)
              exact w_X0_hopeFrom_110 G B hr hlk H_X0_hopeFrom H_X0_hopeByYear H_X0_hopeByDrawing Hm_X0_hopeFrom Hm_X0_hopeByYear Hm_X0_hopeByDrawing  n z23 h22 v0 v1 v2 a12 x15 x21 x25 0 _ _ _ hw hM (lv_sub hl [6, 7, 8, 5, 4, 2, 1, 0] rfl) hf
            · have hf := (if_neg c19).symm.trans hf
              refine lv_lload hx hb dX0_hopeFrom_81 (lv_at hl 0 rfl) ?_
              obtain ⟨rfl, rfl, rfl⟩ := so3 hf
              exact q_lret B hw hM.hz hM.hc0 hr hlk dX0_hopeFrom_83
        · have hf := (if_neg c8).symm.trans hf
          refine lv_lconst (v := 0) hx hb dX0_hopeFrom_38 (by decide) ?_
          obtain ⟨rfl, rfl, rfl⟩ := so3 hf
          exact q_lret B hw hM.hz hM.hc0 hr hlk dX0_hopeFrom_39
  · have hf := (if_neg c1).symm.trans hf
    refine lv_aload_n hx hb dX0_hopeFrom_4 rfl (lv_at hl 0 rfl) ?_
    refine lv_iload_n hx hb dX0_hopeFrom_5 rfl (lv_at hl 1 rfl) ?_
    obtain ⟨x26, e, hf⟩ := ob hf
    refine q_callV (As := [.int v1]) (rest := []) (st1 := [.int x26]) (c_X0_tenthsAt G e) B hw hM.hz hM.hc0 (k_X0_tenthsAt e) (by decide) (ci := 0) rfl rfl my_X0_tenthsAt mv_X0_tenthsAt tw_5_52 ⟨by simp only [rmO, rmA]; omega, by simp only [rmO, rmA]; omega⟩ hM.hcs rfl hl.1 rfl rfl (Nat.le_of_ble_eq_true rfl) dX0_hopeFrom_6 (fun H locs hw => ?_)
    obtain ⟨x27, e, hf⟩ := ob hf
    refine q_callS (As := [.int x26]) (rest := []) (st1 := [.long x27]) (c_X0_tens G e) B hw hM.hz hM.hc0 my_X0_tens mv_X0_tens tw_5_64 ⟨by simp only [rmO, rmA]; omega, by simp only [rmO, rmA]; omega⟩ hM.hcs rfl hl.1 rfl rfl (Nat.le_of_ble_eq_true rfl) dX0_hopeFrom_9 (fun H locs hw => ?_)
    obtain ⟨rfl, rfl, rfl⟩ := so3 hf
    exact q_lret B hw hM.hz hM.hc0 hr hlk dX0_hopeFrom_12
set_option maxHeartbeats 4000000 in
theorem co_X0_hopeByYear {l : Launch} {s0 : State} {E : Ev} (G : Gl s0 E) {n : Nat} {d : Nat} {g_X0_hopeFrom : Sh → Hp → Nat → Int32 → Int32 → Option (Int64 × Hp × Sh)} {g_X0_hopeByYear : Sh → Hp → Nat → Int32 → Int32 → Int32 → Option (Int64 × Hp × Sh)} {g_X0_hopeByDrawing : Sh → Hp → Nat → Int32 → Int32 → Int32 → Option (Int64 × Hp × Sh)} (H_X0_hopeFrom : ∀ {z : Sh} {h : Hp} {v0 : Nat} {v1 : Int32} {v2 : Int32} {r : Int64} {h' : Hp} {zE : Sh}, g_X0_hopeFrom z h v0 v1 v2 = some (r, h', zE) → Ca l s0 E yX0_hopeFrom cX0_hopeFrom 11 (some .long) (5 + d) (97 + 60 * d) [.ref v0, .int v1, .int v2] z zE h h' (some (.long r))) (H_X0_hopeByYear : ∀ {z : Sh} {h : Hp} {v0 : Nat} {v1 : Int32} {v2 : Int32} {v3 : Int32} {r : Int64} {h' : Hp} {zE : Sh}, g_X0_hopeByYear z h v0 v1 v2 v3 = some (r, h', zE) → Ca l s0 E yX0_hopeByYear cX0_hopeByYear 7 (some .long) (5 + d) (97 + 60 * d) [.ref v0, .int v1, .int v2, .int v3] z zE h h' (some (.long r))) (H_X0_hopeByDrawing : ∀ {z : Sh} {h : Hp} {v0 : Nat} {v1 : Int32} {v2 : Int32} {v3 : Int32} {r : Int64} {h' : Hp} {zE : Sh}, g_X0_hopeByDrawing z h v0 v1 v2 v3 = some (r, h', zE) → Ca l s0 E yX0_hopeByDrawing cX0_hopeByDrawing 5 (some .long) (5 + d) (97 + 60 * d) [.ref v0, .int v1, .int v2, .int v3] z zE h h' (some (.long r))) (Hm_X0_hopeFrom : ∀ {z : Sh} {h : Hp} {v0 : Nat} {v1 : Int32} {v2 : Int32} {r : Int64} {h' : Hp} {zE : Sh}, g_X0_hopeFrom z h v0 v1 v2 = some (r, h', zE) → z.sz ≤ zE.sz ∧ z.sl ≤ zE.sl) (Hm_X0_hopeByYear : ∀ {z : Sh} {h : Hp} {v0 : Nat} {v1 : Int32} {v2 : Int32} {v3 : Int32} {r : Int64} {h' : Hp} {zE : Sh}, g_X0_hopeByYear z h v0 v1 v2 v3 = some (r, h', zE) → z.sz ≤ zE.sz ∧ z.sl ≤ zE.sl) (Hm_X0_hopeByDrawing : ∀ {z : Sh} {h : Hp} {v0 : Nat} {v1 : Int32} {v2 : Int32} {v3 : Int32} {r : Int64} {h' : Hp} {zE : Sh}, g_X0_hopeByDrawing z h v0 v1 v2 v3 = some (r, h', zE) → z.sz ≤ zE.sz ∧ z.sl ≤ zE.sl) {z : Sh} {h : Hp} {v0 : Nat} {v1 : Int32} {v2 : Int32} {v3 : Int32} {r : Int64} {h' : Hp} {zE : Sh} (hf : F_X0_hopeByYear n g_X0_hopeFrom g_X0_hopeByYear g_X0_hopeByDrawing z h v0 v1 v2 v3 = some (r, h', zE)) : Ca l s0 E yX0_hopeByYear cX0_hopeByYear 7 (some .long) (5 + (d + 1)) (97 + 60 * (d + 1)) [.ref v0, .int v1, .int v2, .int v3] z zE h h' (some (.long r)) := by
  refine Ca.of G (by decide +kernel) (Nat.le_of_ble_eq_true rfl) (moF_X0_hopeByYear hf) ?_
  intro p e s m below meth c ls B hw hM hr hlk hnm0 hl
  have B : Bd p s0 s E m c cX0_hopeByYear 7 RX0 := B
  have hx := B.1
  have hb := B.2.1
  have hl : lv_has ls 7 [(0, .ref v0), (1, .int v1), (2, .int v2), (3, .int v3)] := hl
  unfold F_X0_hopeByYear at hf
  obtain ⟨_, hf⟩ := if_some hf
  obtain ⟨_, hf⟩ := gd3_some hf
  refine lv_aload_n hx hb dX0_hopeByYear_0 rfl (lv_at hl 0 rfl) ?_
  obtain ⟨a1, e, hf⟩ := ob hf
  refine q_getR e B hw fd_0_0.1 fd_0_0.2.1 fd_0_0.2.2.1 fd_0_0.2.2.2.1 fd_0_0.2.2.2.2 rfl tw_2_64 dX0_hopeByYear_1 ?_
  obtain ⟨a2, e, hf⟩ := ob hf
  refine q_getRN e B hw fd_10_3.1 fd_10_3.2.1 fd_10_3.2.2.1 fd_10_3.2.2.2.1 fd_10_3.2.2.2.2 rfl tw_1_231 dX0_hopeByYear_4 ?_
  obtain ⟨x3, e, hf⟩ := ob hf
  refine q_getIN e B hw fd_8_4.1 fd_8_4.2.1 fd_8_4.2.2.1 fd_8_4.2.2.2.1 fd_8_4.2.2.2.2 rfl tw_1_68 dX0_hopeByYear_7 ?_
  refine lv_istore (lv' := [(4, .int x3), (0, .ref v0), (1, .int v1), (2, .int v2), (3, .int v3)]) hx hb dX0_hopeByYear_10 hl (by decide) rfl (fun ls hl => ?_)
  refine lv_aload_n hx hb dX0_hopeByYear_12 rfl (lv_at hl 1 rfl) ?_
  refine lv_aload_n hx hb dX0_hopeByYear_13 rfl (lv_at hl 1 rfl) ?_
  obtain ⟨a4, e, hf⟩ := ob hf
  refine q_getR e B hw fd_0_0.1 fd_0_0.2.1 fd_0_0.2.2.1 fd_0_0.2.2.2.1 fd_0_0.2.2.2.2 rfl tw_2_64 dX0_hopeByYear_14 ?_
  refine lv_iload_n hx hb dX0_hopeByYear_17 rfl (lv_at hl 2 rfl) ?_
  refine lv_iload_n hx hb dX0_hopeByYear_18 rfl (lv_at hl 4 rfl) ?_
  obtain ⟨x5, e, hf⟩ := ob hf
  refine q_callVN (As := [.int v1, .int v3]) (rest := [.ref v0]) (st1 := [.int x5, .ref v0]) (c_X10_afterYear G e) B hw hM.hz hM.hc0 (k_X10_afterYear e) (by decide) (ci := 10) rfl rfl my_X10_afterYear mv_X10_afterYear tw_5_75 ⟨by simp only [rmO, rmA]; omega, by simp only [rmO, rmA]; omega⟩ hM.hcs rfl hl.1 rfl rfl (Nat.le_of_ble_eq_true rfl) dX0_hopeByYear_19 (fun H locs hw => ?_)
  refine lv_iload_n hx hb dX0_hopeByYear_22 rfl (lv_at hl 3 rfl) ?_
  refine lv_aload_n hx hb dX0_hopeByYear_23 rfl (lv_at hl 1 rfl) ?_
  obtain ⟨a6, e, hf⟩ := ob hf
  refine q_getR e B hw fd_0_0.1 fd_0_0.2.1 fd_0_0.2.2.1 fd_0_0.2.2.2.1 fd_0_0.2.2.2.2 rfl tw_2_64 dX0_hopeByYear_24 ?_
  refine lv_iload_n hx hb dX0_hopeByYear_27 rfl (lv_at hl 2 rfl) ?_
  refine lv_iload_n hx hb dX0_hopeByYear_28 rfl (lv_at hl 4 rfl) ?_
  obtain ⟨⟨x7, h8, z9⟩, e, hf⟩ := ob hf
  obtain ⟨hg, hf⟩ := gd3_some hf
  refine q_callVNA (As := [.int v1, .int v3]) (rest := [.int v2, .int x5, .ref v0]) (st1 := [.int x7, .int v2, .int x5, .ref v0]) (c_X10_worthOf G e) (mo_X10_worthOf e) hg B hw hM (k_X10_worthOf e) (by decide) (ci := 10) rfl rfl my_X10_worthOf mv_X10_worthOf tw_5_74 ⟨by omega, by omega⟩ rfl hl.1 rfl rfl (Nat.le_of_ble_eq_true rfl) dX0_hopeByYear_29 (fun H locs hw hM => ?_)
  refine lv_isub hx hb dX0_hopeByYear_32 ?_
  obtain ⟨_, eK, hf⟩ := ob hf
  obtain ⟨⟨x10, h11, z12⟩, e, hf⟩ := ob hf
  obtain ⟨hg, hf⟩ := gd3_some hf
  refine q_callVA (As := [.int x5, .int (v2 - x7)]) (rest := []) (st1 := [.long x10]) (H_X0_hopeFrom e) (Hm_X0_hopeFrom e) hg B hw hM ((if_some eK).1) (by decide) (ci := 0) rfl rfl my_X0_hopeFrom mv_X0_hopeFrom tw_5_112 ⟨by omega, by omega⟩ rfl hl.1 rfl rfl (Nat.le_of_ble_eq_true rfl) dX0_hopeByYear_33 (fun H locs hw hM => ?_)
  refine lv_lstore (lv' := [(5, .long x10), (4, .int x3), (0, .ref v0), (1, .int v1), (2, .int v2), (3, .int v3)]) hx hb dX0_hopeByYear_36 hl (by decide) rfl (fun ls hl => ?_)
  refine lv_bipush (v := 10) hx hb dX0_hopeByYear_38 (by decide) ?_
  refine lv_iload hx hb dX0_hopeByYear_40 (lv_at hl 1 rfl) ?_
  refine lv_isub hx hb dX0_hopeByYear_42 ?_
  refine lv_i2l (v := (Int32.toInt64 (10 - x3))) hx hb dX0_hopeByYear_43 rfl ?_
  refine lv_lload hx hb dX0_hopeByYear_44 (lv_at hl 0 rfl) ?_
  refine lv_lmul hx hb dX0_hopeByYear_46 ?_
  refine lv_iload hx hb dX0_hopeByYear_47 (lv_at hl 1 rfl) ?_
  refine lv_i2l (v := (Int32.toInt64 x3)) hx hb dX0_hopeByYear_49 rfl ?_
  refine lv_aload_n hx hb dX0_hopeByYear_50 rfl (lv_at hl 2 rfl) ?_
  refine lv_iload_n hx hb dX0_hopeByYear_51 rfl (lv_at hl 3 rfl) ?_
  refine lv_iload_n hx hb dX0_hopeByYear_52 rfl (lv_at hl 4 rfl) ?_
  refine lv_aload_n hx hb dX0_hopeByYear_53 rfl (lv_at hl 2 rfl) ?_
  refine lv_iload_n hx hb dX0_hopeByYear_54 rfl (lv_at hl 3 rfl) ?_
  obtain ⟨x13, e, hf⟩ := ob hf
  refine q_callV (As := [.int v1]) (rest := [.int v2, .int v1, .ref v0, .long (Int32.toInt64 x3), .long ((Int32.toInt64 (10 - x3)) * x10)]) (st1 := [.int x13, .int v2, .int v1, .ref v0, .long (Int32.toInt64 x3), .long ((Int32.toInt64 (10 - x3)) * x10)]) (c_X0_tenthsAt G e) B hw hM.hz hM.hc0 (k_X0_tenthsAt e) (by decide) (ci := 0) rfl rfl my_X0_tenthsAt mv_X0_tenthsAt tw_5_52 ⟨by simp only [rmO, rmA]; omega, by simp only [rmO, rmA]; omega⟩ hM.hcs rfl hl.1 rfl rfl (Nat.le_of_ble_eq_true rfl) dX0_hopeByYear_55 (fun H locs hw => ?_)
  refine lv_iconst (v := 1) hx hb dX0_hopeByYear_58 (by decide) ?_
  refine lv_isub hx hb dX0_hopeByYear_59 ?_
  obtain ⟨_, eK, hf⟩ := ob hf
  obtain ⟨⟨x14, h15, z16⟩, e, hf⟩ := ob hf
  obtain ⟨hg, hf⟩ := gd3_some hf
  refine q_callVA (As := [.int v1, .int v2, .int (x13 - 1)]) (rest := [.long (Int32.toInt64 x3), .long ((Int32.toInt64 (10 - x3)) * x10)]) (st1 := [.long x14, .long (Int32.toInt64 x3), .long ((Int32.toInt64 (10 - x3)) * x10)]) (H_X0_hopeByDrawing e) (Hm_X0_hopeByDrawing e) hg B hw hM ((if_some eK).1) (by decide) (ci := 0) rfl rfl my_X0_hopeByDrawing mv_X0_hopeByDrawing tw_5_129 ⟨by omega, by omega⟩ rfl hl.1 rfl rfl (Nat.le_of_ble_eq_true rfl) dX0_hopeByYear_60 (fun H locs hw hM => ?_)
  refine lv_lmul hx hb dX0_hopeByYear_63 ?_
  refine lv_ladd hx hb dX0_hopeByYear_64 ?_
  obtain ⟨rfl, rfl, rfl⟩ := so3 hf
  exact q_lret B hw hM.hz hM.hc0 hr hlk dX0_hopeByYear_65
set_option maxHeartbeats 4000000 in
theorem co_X0_hopeByDrawing {l : Launch} {s0 : State} {E : Ev} (G : Gl s0 E) {n : Nat} {d : Nat} {g_X0_hopeFrom : Sh → Hp → Nat → Int32 → Int32 → Option (Int64 × Hp × Sh)} {g_X0_hopeByYear : Sh → Hp → Nat → Int32 → Int32 → Int32 → Option (Int64 × Hp × Sh)} {g_X0_hopeByDrawing : Sh → Hp → Nat → Int32 → Int32 → Int32 → Option (Int64 × Hp × Sh)} (H_X0_hopeFrom : ∀ {z : Sh} {h : Hp} {v0 : Nat} {v1 : Int32} {v2 : Int32} {r : Int64} {h' : Hp} {zE : Sh}, g_X0_hopeFrom z h v0 v1 v2 = some (r, h', zE) → Ca l s0 E yX0_hopeFrom cX0_hopeFrom 11 (some .long) (5 + d) (97 + 60 * d) [.ref v0, .int v1, .int v2] z zE h h' (some (.long r))) (H_X0_hopeByYear : ∀ {z : Sh} {h : Hp} {v0 : Nat} {v1 : Int32} {v2 : Int32} {v3 : Int32} {r : Int64} {h' : Hp} {zE : Sh}, g_X0_hopeByYear z h v0 v1 v2 v3 = some (r, h', zE) → Ca l s0 E yX0_hopeByYear cX0_hopeByYear 7 (some .long) (5 + d) (97 + 60 * d) [.ref v0, .int v1, .int v2, .int v3] z zE h h' (some (.long r))) (H_X0_hopeByDrawing : ∀ {z : Sh} {h : Hp} {v0 : Nat} {v1 : Int32} {v2 : Int32} {v3 : Int32} {r : Int64} {h' : Hp} {zE : Sh}, g_X0_hopeByDrawing z h v0 v1 v2 v3 = some (r, h', zE) → Ca l s0 E yX0_hopeByDrawing cX0_hopeByDrawing 5 (some .long) (5 + d) (97 + 60 * d) [.ref v0, .int v1, .int v2, .int v3] z zE h h' (some (.long r))) (Hm_X0_hopeFrom : ∀ {z : Sh} {h : Hp} {v0 : Nat} {v1 : Int32} {v2 : Int32} {r : Int64} {h' : Hp} {zE : Sh}, g_X0_hopeFrom z h v0 v1 v2 = some (r, h', zE) → z.sz ≤ zE.sz ∧ z.sl ≤ zE.sl) (Hm_X0_hopeByYear : ∀ {z : Sh} {h : Hp} {v0 : Nat} {v1 : Int32} {v2 : Int32} {v3 : Int32} {r : Int64} {h' : Hp} {zE : Sh}, g_X0_hopeByYear z h v0 v1 v2 v3 = some (r, h', zE) → z.sz ≤ zE.sz ∧ z.sl ≤ zE.sl) (Hm_X0_hopeByDrawing : ∀ {z : Sh} {h : Hp} {v0 : Nat} {v1 : Int32} {v2 : Int32} {v3 : Int32} {r : Int64} {h' : Hp} {zE : Sh}, g_X0_hopeByDrawing z h v0 v1 v2 v3 = some (r, h', zE) → z.sz ≤ zE.sz ∧ z.sl ≤ zE.sl) {z : Sh} {h : Hp} {v0 : Nat} {v1 : Int32} {v2 : Int32} {v3 : Int32} {r : Int64} {h' : Hp} {zE : Sh} (hf : F_X0_hopeByDrawing n g_X0_hopeFrom g_X0_hopeByYear g_X0_hopeByDrawing z h v0 v1 v2 v3 = some (r, h', zE)) : Ca l s0 E yX0_hopeByDrawing cX0_hopeByDrawing 5 (some .long) (5 + (d + 1)) (97 + 60 * (d + 1)) [.ref v0, .int v1, .int v2, .int v3] z zE h h' (some (.long r)) := by
  refine Ca.of G (by decide +kernel) (Nat.le_of_ble_eq_true rfl) (moF_X0_hopeByDrawing hf) ?_
  intro p e s m below meth c ls B hw hM hr hlk hnm0 hl
  have B : Bd p s0 s E m c cX0_hopeByDrawing 5 RX0 := B
  have hx := B.1
  have hb := B.2.1
  have hl : lv_has ls 5 [(0, .ref v0), (1, .int v1), (2, .int v2), (3, .int v3)] := hl
  unfold F_X0_hopeByDrawing at hf
  obtain ⟨_, hf⟩ := if_some hf
  obtain ⟨_, hf⟩ := gd3_some hf
  refine lv_aload_n hx hb dX0_hopeByDrawing_0 rfl (lv_at hl 0 rfl) ?_
  obtain ⟨a1, e, hf⟩ := ob hf
  refine q_getR e B hw fd_0_0.1 fd_0_0.2.1 fd_0_0.2.2.1 fd_0_0.2.2.2.1 fd_0_0.2.2.2.2 rfl tw_2_64 dX0_hopeByDrawing_1 ?_
  refine lv_iload_n hx hb dX0_hopeByDrawing_4 rfl (lv_at hl 1 rfl) ?_
  obtain ⟨x2, e, hf⟩ := ob hf
  refine q_callVN (As := [.int v1]) (rest := []) (st1 := [.int x2]) (c_X10_afterDrawing G e) B hw hM.hz hM.hc0 (k_X10_afterDrawing e) (by decide) (ci := 10) rfl rfl my_X10_afterDrawing mv_X10_afterDrawing tw_5_62 ⟨by simp only [rmO, rmA]; omega, by simp only [rmO, rmA]; omega⟩ hM.hcs rfl hl.1 rfl rfl (Nat.le_of_ble_eq_true rfl) dX0_hopeByDrawing_5 (fun H locs hw => ?_)
  refine lv_istore (lv' := [(4, .int x2), (0, .ref v0), (1, .int v1), (2, .int v2), (3, .int v3)]) hx hb dX0_hopeByDrawing_8 hl (by decide) rfl (fun ls hl => ?_)
  refine lv_iload hx hb dX0_hopeByDrawing_10 (lv_at hl 0 rfl) ?_
  refine lv_iconst (v := (-1)) hx hb dX0_hopeByDrawing_12 (by decide) ?_
  refine lv_icmp_ne (tgt := 20) hx hb dX0_hopeByDrawing_13 (by decide) (fun c3 => ?_) (fun c3 => ?_)
  · have hf := (if_neg c3).symm.trans hf
    refine lv_aload_n hx hb dX0_hopeByDrawing_20 rfl (lv_at hl 1 rfl) ?_
    refine lv_iload hx hb dX0_hopeByDrawing_21 (lv_at hl 0 rfl) ?_
    refine lv_iload_n hx hb dX0_hopeByDrawing_23 rfl (lv_at hl 3 rfl) ?_
    obtain ⟨_, eK, hf⟩ := ob hf
    obtain ⟨⟨x4, h5, z6⟩, e, hf⟩ := ob hf
    obtain ⟨hg, hf⟩ := gd3_some hf
    refine q_callVA (As := [.int x2, .int v2]) (rest := []) (st1 := [.long x4]) (H_X0_hopeFrom e) (Hm_X0_hopeFrom e) hg B hw hM ((if_some eK).1) (by decide) (ci := 0) rfl rfl my_X0_hopeFrom mv_X0_hopeFrom tw_5_112 ⟨by omega, by omega⟩ rfl hl.1 rfl rfl (Nat.le_of_ble_eq_true rfl) dX0_hopeByDrawing_24 (fun H locs hw hM => ?_)
    refine lv_iload_n hx hb dX0_hopeByDrawing_27 rfl (lv_at hl 4 rfl) ?_
    refine lv_aload_n hx hb dX0_hopeByDrawing_28 rfl (lv_at hl 1 rfl) ?_
    refine lv_iload hx hb dX0_hopeByDrawing_29 (lv_at hl 0 rfl) ?_
    obtain ⟨x7, e, hf⟩ := ob hf
    refine q_callV (As := [.int x2]) (rest := [.int v3, .long x4]) (st1 := [.int x7, .int v3, .long x4]) (c_X0_tenthsAt G e) B hw hM.hz hM.hc0 (k_X0_tenthsAt e) (by decide) (ci := 0) rfl rfl my_X0_tenthsAt mv_X0_tenthsAt tw_5_52 ⟨by simp only [rmO, rmA]; omega, by simp only [rmO, rmA]; omega⟩ hM.hcs rfl hl.1 rfl rfl (Nat.le_of_ble_eq_true rfl) dX0_hopeByDrawing_31 (fun H locs hw => ?_)
    refine lv_isub hx hb dX0_hopeByDrawing_34 ?_
    obtain ⟨x8, e, hf⟩ := ob hf
    refine q_callS (As := [.int (v3 - x7)]) (rest := [.long x4]) (st1 := [.long x8, .long x4]) (c_X0_tens G e) B hw hM.hz hM.hc0 my_X0_tens mv_X0_tens tw_5_64 ⟨by simp only [rmO, rmA]; omega, by simp only [rmO, rmA]; omega⟩ hM.hcs rfl hl.1 rfl rfl (Nat.le_of_ble_eq_true rfl) dX0_hopeByDrawing_35 (fun H locs hw => ?_)
    refine lv_lmul hx hb dX0_hopeByDrawing_38 ?_
    obtain ⟨rfl, rfl, rfl⟩ := so3 hf
    exact q_lret B hw hM.hz hM.hc0 hr hlk dX0_hopeByDrawing_39
  · have hf := (if_pos c3).symm.trans hf
    refine lv_lconst (v := 0) hx hb dX0_hopeByDrawing_16 (by decide) ?_
    refine lv_goto (tgt := 39) hx hb dX0_hopeByDrawing_17 (by decide) ?_
    obtain ⟨rfl, rfl, rfl⟩ := so3 hf
    exact q_lret B hw hM.hz hM.hc0 hr hlk dX0_hopeByDrawing_39
set_option maxHeartbeats 4000000 in
theorem cg_X0_hopeFrom {l : Launch} {s0 : State} {E : Ev} (G : Gl s0 E) {n : Nat} : ∀ d : Nat, (∀ {z : Sh} {h : Hp} {v0 : Nat} {v1 : Int32} {v2 : Int32} {r : Int64} {h' : Hp} {zE : Sh}, (rc_X0_hopeFrom n d).1 z h v0 v1 v2 = some (r, h', zE) → Ca l s0 E yX0_hopeFrom cX0_hopeFrom 11 (some .long) (5 + d) (97 + 60 * d) [.ref v0, .int v1, .int v2] z zE h h' (some (.long r))) ∧ (∀ {z : Sh} {h : Hp} {v0 : Nat} {v1 : Int32} {v2 : Int32} {v3 : Int32} {r : Int64} {h' : Hp} {zE : Sh}, (rc_X0_hopeFrom n d).2.1 z h v0 v1 v2 v3 = some (r, h', zE) → Ca l s0 E yX0_hopeByYear cX0_hopeByYear 7 (some .long) (5 + d) (97 + 60 * d) [.ref v0, .int v1, .int v2, .int v3] z zE h h' (some (.long r))) ∧ (∀ {z : Sh} {h : Hp} {v0 : Nat} {v1 : Int32} {v2 : Int32} {v3 : Int32} {r : Int64} {h' : Hp} {zE : Sh}, (rc_X0_hopeFrom n d).2.2 z h v0 v1 v2 v3 = some (r, h', zE) → Ca l s0 E yX0_hopeByDrawing cX0_hopeByDrawing 5 (some .long) (5 + d) (97 + 60 * d) [.ref v0, .int v1, .int v2, .int v3] z zE h h' (some (.long r))) ∧ (∀ {z : Sh} {h : Hp} {v0 : Nat} {v1 : Int32} {v2 : Int32} {r : Int64} {h' : Hp} {zE : Sh}, (rc_X0_hopeFrom n d).1 z h v0 v1 v2 = some (r, h', zE) → z.sz ≤ zE.sz ∧ z.sl ≤ zE.sl) ∧ (∀ {z : Sh} {h : Hp} {v0 : Nat} {v1 : Int32} {v2 : Int32} {v3 : Int32} {r : Int64} {h' : Hp} {zE : Sh}, (rc_X0_hopeFrom n d).2.1 z h v0 v1 v2 v3 = some (r, h', zE) → z.sz ≤ zE.sz ∧ z.sl ≤ zE.sl) ∧ (∀ {z : Sh} {h : Hp} {v0 : Nat} {v1 : Int32} {v2 : Int32} {v3 : Int32} {r : Int64} {h' : Hp} {zE : Sh}, (rc_X0_hopeFrom n d).2.2 z h v0 v1 v2 v3 = some (r, h', zE) → z.sz ≤ zE.sz ∧ z.sl ≤ zE.sl) := by
  intro d
  induction d with
  | zero => exact ⟨fun hf => (by cases hf), fun hf => (by cases hf), fun hf => (by cases hf), fun hf => (by cases hf), fun hf => (by cases hf), fun hf => (by cases hf)⟩
  | succ d ih => exact ⟨fun hf => co_X0_hopeFrom (n := n) G (fun hf => ih.1 hf) (fun hf => ih.2.1 hf) (fun hf => ih.2.2.1 hf) (fun hf => ih.2.2.2.1 hf) (fun hf => ih.2.2.2.2.1 hf) (fun hf => ih.2.2.2.2.2 hf) hf, fun hf => co_X0_hopeByYear (n := n) G (fun hf => ih.1 hf) (fun hf => ih.2.1 hf) (fun hf => ih.2.2.1 hf) (fun hf => ih.2.2.2.1 hf) (fun hf => ih.2.2.2.2.1 hf) (fun hf => ih.2.2.2.2.2 hf) hf, fun hf => co_X0_hopeByDrawing (n := n) G (fun hf => ih.1 hf) (fun hf => ih.2.1 hf) (fun hf => ih.2.2.1 hf) (fun hf => ih.2.2.2.1 hf) (fun hf => ih.2.2.2.2.1 hf) (fun hf => ih.2.2.2.2.2 hf) hf, fun hf => moF_X0_hopeFrom (n := n) (g_X0_hopeFrom := (rc_X0_hopeFrom n d).1) (g_X0_hopeByYear := (rc_X0_hopeFrom n d).2.1) (g_X0_hopeByDrawing := (rc_X0_hopeFrom n d).2.2) hf, fun hf => moF_X0_hopeByYear (n := n) (g_X0_hopeFrom := (rc_X0_hopeFrom n d).1) (g_X0_hopeByYear := (rc_X0_hopeFrom n d).2.1) (g_X0_hopeByDrawing := (rc_X0_hopeFrom n d).2.2) hf, fun hf => moF_X0_hopeByDrawing (n := n) (g_X0_hopeFrom := (rc_X0_hopeFrom n d).1) (g_X0_hopeByYear := (rc_X0_hopeFrom n d).2.1) (g_X0_hopeByDrawing := (rc_X0_hopeFrom n d).2.2) hf⟩
theorem c_X0_hopeFrom {l : Launch} {s0 : State} {E : Ev} (G : Gl s0 E) {n : Nat} {z : Sh} {h : Hp} {v0 : Nat} {v1 : Int32} {v2 : Int32} {r : Int64} {h' : Hp} {zE : Sh} (hf : f_X0_hopeFrom n z h v0 v1 v2 = some (r, h', zE)) : Ca l s0 E yX0_hopeFrom cX0_hopeFrom 11 (some .long) 65 3697 [.ref v0, .int v1, .int v2] z zE h h' (some (.long r)) := (cg_X0_hopeFrom G 60).1 hf
theorem c_X0_hopeByYear {l : Launch} {s0 : State} {E : Ev} (G : Gl s0 E) {n : Nat} {z : Sh} {h : Hp} {v0 : Nat} {v1 : Int32} {v2 : Int32} {v3 : Int32} {r : Int64} {h' : Hp} {zE : Sh} (hf : f_X0_hopeByYear n z h v0 v1 v2 v3 = some (r, h', zE)) : Ca l s0 E yX0_hopeByYear cX0_hopeByYear 7 (some .long) 65 3697 [.ref v0, .int v1, .int v2, .int v3] z zE h h' (some (.long r)) := (cg_X0_hopeFrom G 60).2.1 hf
theorem c_X0_hopeByDrawing {l : Launch} {s0 : State} {E : Ev} (G : Gl s0 E) {n : Nat} {z : Sh} {h : Hp} {v0 : Nat} {v1 : Int32} {v2 : Int32} {v3 : Int32} {r : Int64} {h' : Hp} {zE : Sh} (hf : f_X0_hopeByDrawing n z h v0 v1 v2 v3 = some (r, h', zE)) : Ca l s0 E yX0_hopeByDrawing cX0_hopeByDrawing 5 (some .long) 65 3697 [.ref v0, .int v1, .int v2, .int v3] z zE h h' (some (.long r)) := (cg_X0_hopeFrom G 60).2.2.1 hf
