/-! SecondLifeModel.drawnMean(I)J -/
def F_X12_drawnMean (n : Nat) (g_X12_drawnMean : Sh → Hp → Nat → Int32 → Option (Int64 × Hp)) (g_X12_livedMean : Sh → Hp → Nat → Int32 → Int32 → Option (Int64 × Hp)) (g_X12_meanFrom : Sh → Hp → Nat → Int32 → Option (Int64 × Hp)) (z : Sh) (h : Hp) (v0 : Nat) (v1 : Int32) : Option (Int64 × Hp) :=
  if z.K v0 = 12 then
    (f_X12_canDraw z h v0 v1).bind fun x1 =>
    if x1 = 0 then
      some ((0 : Int64), h)
    else
      (gI z h 12 v0 25).bind fun x3 =>
      (f_X12_drawnTo n z h v0 x3 v1).bind fun (x4, h5) =>
      (ckK z v0 12).bind fun _ =>
      (g_X12_meanFrom z h5 v0 x4).bind fun (x6, h7) =>
      some (x6, h7)
  else none
def F_X12_livedMean (n : Nat) (g_X12_drawnMean : Sh → Hp → Nat → Int32 → Option (Int64 × Hp)) (g_X12_livedMean : Sh → Hp → Nat → Int32 → Int32 → Option (Int64 × Hp)) (g_X12_meanFrom : Sh → Hp → Nat → Int32 → Option (Int64 × Hp)) (z : Sh) (h : Hp) (v0 : Nat) (v1 : Int32) (v2 : Int32) : Option (Int64 × Hp) :=
  if z.K v0 = 12 then
    (gI z h 12 v0 25).bind fun x1 =>
    (f_X12_worthOf n z h v0 x1 v1 v2).bind fun (x2, h3) =>
    (f_X12_livedTo z h3 v1 v2).bind fun x4 =>
    (ckK z v0 12).bind fun _ =>
    (g_X12_meanFrom z h3 v0 x4).bind fun (x5, h6) =>
    (dvJ (((Int32.toInt64 x2) * 1000000000000) + x5) 10).bind fun x7 =>
    (gR z h6 12 v0 1).bind fun a8 =>
    (ldI z h6 a8 4).bind fun x9 =>
    (ckK z v0 12).bind fun _ =>
    (g_X12_drawnMean z h6 v0 v1).bind fun (x10, h11) =>
    (dvJ x10 10).bind fun x12 =>
    (gR z h11 12 v0 1).bind fun a13 =>
    (ldI z h11 a13 4).bind fun x14 =>
    some (((x7 * (Int32.toInt64 (10 - x9))) + (x12 * (Int32.toInt64 x14))), h11)
  else none
def f_X12_meanFrom_87 (n : Nat) (g_X12_drawnMean : Sh → Hp → Nat → Int32 → Option (Int64 × Hp)) (g_X12_livedMean : Sh → Hp → Nat → Int32 → Int32 → Option (Int64 × Hp)) (g_X12_meanFrom : Sh → Hp → Nat → Int32 → Option (Int64 × Hp)) (z : Sh) (h : Hp) (v0 : Nat) (v1 : Int32) (v2 : Int64) : Option (Int64 × Hp) :=
  (gR z h 12 v0 29).bind fun a1 =>
  (stJ z h a1 v1 v2).bind fun h2 =>
  (gR z h2 12 v0 24).bind fun a3 =>
  (stZ z h2 a3 v1 1).bind fun h4 =>
  some (v2, h4)
def f_X12_meanFrom_80 (n : Nat) (g_X12_drawnMean : Sh → Hp → Nat → Int32 → Option (Int64 × Hp)) (g_X12_livedMean : Sh → Hp → Nat → Int32 → Int32 → Option (Int64 × Hp)) (g_X12_meanFrom : Sh → Hp → Nat → Int32 → Option (Int64 × Hp)) (z : Sh) (k39 : Hp → Nat → Int32 → Int64 → Int32 → Option (Int64 × Hp)) (h : Hp) (v0 : Nat) (v1 : Int32) (v4 : Int32) (u0 : Int64) : Option (Int64 × Hp) :=
  (some (v4 + 1)).bind fun x1 =>
  k39 h v0 v1 u0 x1
def f_X12_meanFrom_39 (n : Nat) (g_X12_drawnMean : Sh → Hp → Nat → Int32 → Option (Int64 × Hp)) (g_X12_livedMean : Sh → Hp → Nat → Int32 → Int32 → Option (Int64 × Hp)) (g_X12_meanFrom : Sh → Hp → Nat → Int32 → Option (Int64 × Hp)) (z : Sh) : Nat → Hp → Nat → Int32 → Int64 → Int32 → Option (Int64 × Hp)
  | 0, _, _, _, _, _ => none
  | i + 1, h, v0, v1, v2, v4 =>
    (gR z h 12 v0 1).bind fun a1 =>
    (ldI z h a1 2).bind fun x2 =>
    if x2 ≤ v4 then
      f_X12_meanFrom_87 n g_X12_drawnMean g_X12_livedMean g_X12_meanFrom z h v0 v1 v2
    else
      (f_X12_isOver z h v0 v1).bind fun x4 =>
      if x4 = 0 then
        (ckK z v0 12).bind fun _ =>
        (g_X12_livedMean z h v0 v1 v4).bind fun (x6, h7) =>
        if (lg_cmp x6 v2) ≤ 0 then
          f_X12_meanFrom_80 n g_X12_drawnMean g_X12_livedMean g_X12_meanFrom z (f_X12_meanFrom_39 n g_X12_drawnMean g_X12_livedMean g_X12_meanFrom z i) h7 v0 v1 v4 v2
        else
          f_X12_meanFrom_80 n g_X12_drawnMean g_X12_livedMean g_X12_meanFrom z (f_X12_meanFrom_39 n g_X12_drawnMean g_X12_livedMean g_X12_meanFrom z i) h7 v0 v1 v4 x6
      else
        f_X12_meanFrom_87 n g_X12_drawnMean g_X12_livedMean g_X12_meanFrom z h v0 v1 v2
def f_X12_meanFrom_35 (n : Nat) (g_X12_drawnMean : Sh → Hp → Nat → Int32 → Option (Int64 × Hp)) (g_X12_livedMean : Sh → Hp → Nat → Int32 → Int32 → Option (Int64 × Hp)) (g_X12_meanFrom : Sh → Hp → Nat → Int32 → Option (Int64 × Hp)) (z : Sh) (h : Hp) (v0 : Nat) (v1 : Int32) (u0 : Int64) : Option (Int64 × Hp) :=
  f_X12_meanFrom_39 n g_X12_drawnMean g_X12_livedMean g_X12_meanFrom z n h v0 v1 u0 0
def F_X12_meanFrom (n : Nat) (g_X12_drawnMean : Sh → Hp → Nat → Int32 → Option (Int64 × Hp)) (g_X12_livedMean : Sh → Hp → Nat → Int32 → Int32 → Option (Int64 × Hp)) (g_X12_meanFrom : Sh → Hp → Nat → Int32 → Option (Int64 × Hp)) (z : Sh) (h : Hp) (v0 : Nat) (v1 : Int32) : Option (Int64 × Hp) :=
  if z.K v0 = 12 then
    (gR z h 12 v0 24).bind fun a1 =>
    (ldZ z h a1 v1).bind fun x2 =>
    if x2 = 0 then
      (ckK z v0 12).bind fun _ =>
      (g_X12_drawnMean z h v0 v1).bind fun (x4, h5) =>
      if (lg_cmp x4 0) ≤ 0 then
        f_X12_meanFrom_35 n g_X12_drawnMean g_X12_livedMean g_X12_meanFrom z h5 v0 v1 0
      else
        (ckK z v0 12).bind fun _ =>
        (g_X12_drawnMean z h5 v0 v1).bind fun (x7, h8) =>
        f_X12_meanFrom_35 n g_X12_drawnMean g_X12_livedMean g_X12_meanFrom z h8 v0 v1 x7
    else
      (gR z h 12 v0 29).bind fun a9 =>
      (ldJ z h a9 v1).bind fun x10 =>
      some (x10, h)
  else none
def rc_X12_drawnMean (n : Nat) : Nat → (Sh → Hp → Nat → Int32 → Option (Int64 × Hp)) × (Sh → Hp → Nat → Int32 → Int32 → Option (Int64 × Hp)) × (Sh → Hp → Nat → Int32 → Option (Int64 × Hp))
  | 0 => (fun _ _ _ _ => none, fun _ _ _ _ _ => none, fun _ _ _ _ => none)
  | i + 1 => (F_X12_drawnMean n (rc_X12_drawnMean n i).1 (rc_X12_drawnMean n i).2.1 (rc_X12_drawnMean n i).2.2, F_X12_livedMean n (rc_X12_drawnMean n i).1 (rc_X12_drawnMean n i).2.1 (rc_X12_drawnMean n i).2.2, F_X12_meanFrom n (rc_X12_drawnMean n i).1 (rc_X12_drawnMean n i).2.1 (rc_X12_drawnMean n i).2.2)
def f_X12_drawnMean (n : Nat) (z : Sh) (h : Hp) (v0 : Nat) (v1 : Int32) : Option (Int64 × Hp) := (rc_X12_drawnMean n 60).1 z h v0 v1
theorem k_X12_drawnMean {n : Nat} {z : Sh} {h : Hp} {v0 : Nat} {v1 : Int32} {w : Int64 × Hp} (hf : f_X12_drawnMean n z h v0 v1 = some w) : z.K v0 = 12 := by
  have hf : F_X12_drawnMean n (rc_X12_drawnMean n 59).1 (rc_X12_drawnMean n 59).2.1 (rc_X12_drawnMean n 59).2.2 z h v0 v1 = some w := hf
  unfold F_X12_drawnMean at hf
  exact (if_some hf).1
def f_X12_livedMean (n : Nat) (z : Sh) (h : Hp) (v0 : Nat) (v1 : Int32) (v2 : Int32) : Option (Int64 × Hp) := (rc_X12_drawnMean n 60).2.1 z h v0 v1 v2
theorem k_X12_livedMean {n : Nat} {z : Sh} {h : Hp} {v0 : Nat} {v1 : Int32} {v2 : Int32} {w : Int64 × Hp} (hf : f_X12_livedMean n z h v0 v1 v2 = some w) : z.K v0 = 12 := by
  have hf : F_X12_livedMean n (rc_X12_drawnMean n 59).1 (rc_X12_drawnMean n 59).2.1 (rc_X12_drawnMean n 59).2.2 z h v0 v1 v2 = some w := hf
  unfold F_X12_livedMean at hf
  exact (if_some hf).1
def f_X12_meanFrom (n : Nat) (z : Sh) (h : Hp) (v0 : Nat) (v1 : Int32) : Option (Int64 × Hp) := (rc_X12_drawnMean n 60).2.2 z h v0 v1
theorem k_X12_meanFrom {n : Nat} {z : Sh} {h : Hp} {v0 : Nat} {v1 : Int32} {w : Int64 × Hp} (hf : f_X12_meanFrom n z h v0 v1 = some w) : z.K v0 = 12 := by
  have hf : F_X12_meanFrom n (rc_X12_drawnMean n 59).1 (rc_X12_drawnMean n 59).2.1 (rc_X12_drawnMean n 59).2.2 z h v0 v1 = some w := hf
  unfold F_X12_meanFrom at hf
  exact (if_some hf).1
set_option maxHeartbeats 4000000 in
theorem co_X12_drawnMean {l : Launch} {s0 : State} {E : Ev} (G : Gl s0 E) {n : Nat} {d : Nat} {g_X12_drawnMean : Sh → Hp → Nat → Int32 → Option (Int64 × Hp)} {g_X12_livedMean : Sh → Hp → Nat → Int32 → Int32 → Option (Int64 × Hp)} {g_X12_meanFrom : Sh → Hp → Nat → Int32 → Option (Int64 × Hp)} (H_X12_drawnMean : ∀ {z : Sh} {h : Hp} {v0 : Nat} {v1 : Int32} {r : Int64} {h' : Hp}, g_X12_drawnMean z h v0 v1 = some (r, h') → Ct l s0 E yX12_drawnMean cX12_drawnMean 2 (some .long) (5 + d) (94 + 60 * d) [.ref v0, .int v1] z h h' (some (.long r))) (H_X12_livedMean : ∀ {z : Sh} {h : Hp} {v0 : Nat} {v1 : Int32} {v2 : Int32} {r : Int64} {h' : Hp}, g_X12_livedMean z h v0 v1 v2 = some (r, h') → Ct l s0 E yX12_livedMean cX12_livedMean 3 (some .long) (5 + d) (94 + 60 * d) [.ref v0, .int v1, .int v2] z h h' (some (.long r))) (H_X12_meanFrom : ∀ {z : Sh} {h : Hp} {v0 : Nat} {v1 : Int32} {r : Int64} {h' : Hp}, g_X12_meanFrom z h v0 v1 = some (r, h') → Ct l s0 E yX12_meanFrom cX12_meanFrom 7 (some .long) (5 + d) (94 + 60 * d) [.ref v0, .int v1] z h h' (some (.long r))) {z : Sh} {h : Hp} {v0 : Nat} {v1 : Int32} {r : Int64} {h' : Hp} (hf : F_X12_drawnMean n g_X12_drawnMean g_X12_livedMean g_X12_meanFrom z h v0 v1 = some (r, h')) : Ct l s0 E yX12_drawnMean cX12_drawnMean 2 (some .long) (5 + (d + 1)) (94 + 60 * (d + 1)) [.ref v0, .int v1] z h h' (some (.long r)) := by
  refine Ct.of G (by decide) (Nat.le_of_ble_eq_true rfl) ?_
  intro p e s m below meth c ls B hw hz hc0 hr hlk hl
  have B : Bd p s0 s E m c cX12_drawnMean 2 RX12 := B
  have hx := B.1
  have hb := B.2.1
  have hl : lv_has ls 2 [(0, .ref v0), (1, .int v1)] := hl
  unfold F_X12_drawnMean at hf
  obtain ⟨_, hf⟩ := if_some hf
  refine lv_aload_n hx hb dX12_drawnMean_0 rfl (lv_at hl 0 rfl) ?_
  refine lv_iload_n hx hb dX12_drawnMean_1 rfl (lv_at hl 1 rfl) ?_
  obtain ⟨x1, e, hf⟩ := ob hf
  refine q_callV (As := [.int v1]) (rest := []) (st1 := [.int x1]) (c_X12_canDraw G e) B hw hz hc0 (k_X12_canDraw e) (by decide) (ci := 12) rfl rfl my_X12_canDraw mv_X12_canDraw tw_8_1 ⟨by simp only [rmO, rmA]; omega, by simp only [rmO, rmA]; omega⟩ ⟨Nat.zero_le _, Nat.zero_le _⟩ rfl hl.1 rfl rfl (Nat.le_of_ble_eq_true rfl) dX12_drawnMean_2 (fun H locs hw => ?_)
  refine lv_if_eq (tgt := 24) hx hb dX12_drawnMean_5 (by decide) (fun c2 => ?_) (fun c2 => ?_)
  · have hf := (if_pos c2).symm.trans hf
    refine lv_lconst (v := 0) hx hb dX12_drawnMean_24 (by decide) ?_
    obtain ⟨rfl, rfl⟩ := so2 hf
    exact q_lret B hw hz hc0 hr hlk dX12_drawnMean_25
  · have hf := (if_neg c2).symm.trans hf
    refine lv_aload_n hx hb dX12_drawnMean_8 rfl (lv_at hl 0 rfl) ?_
    refine lv_aload_n hx hb dX12_drawnMean_9 rfl (lv_at hl 0 rfl) ?_
    refine lv_aload_n hx hb dX12_drawnMean_10 rfl (lv_at hl 0 rfl) ?_
    obtain ⟨x3, e, hf⟩ := ob hf
    refine q_getI e B hw fd_12_25.1 fd_12_25.2.1 fd_12_25.2.2.1 fd_12_25.2.2.2.1 fd_12_25.2.2.2.2 rfl tw_6_68 dX12_drawnMean_11 ?_
    refine lv_iload_n hx hb dX12_drawnMean_14 rfl (lv_at hl 1 rfl) ?_
    obtain ⟨⟨x4, h5⟩, e, hf⟩ := ob hf
    refine q_callV (As := [.int x3, .int v1]) (rest := [.ref v0]) (st1 := [.int x4, .ref v0]) (c_X12_drawnTo G e) B hw hz hc0 (k_X12_drawnTo e) (by decide) (ci := 12) rfl rfl my_X12_drawnTo mv_X12_drawnTo tw_7_135 ⟨by simp only [rmO, rmA]; omega, by simp only [rmO, rmA]; omega⟩ ⟨Nat.zero_le _, Nat.zero_le _⟩ rfl hl.1 rfl rfl (Nat.le_of_ble_eq_true rfl) dX12_drawnMean_15 (fun H locs hw => ?_)
    obtain ⟨_, eK, hf⟩ := ob hf
    obtain ⟨⟨x6, h7⟩, e, hf⟩ := ob hf
    refine q_callV (As := [.int x4]) (rest := []) (st1 := [.long x6]) (H_X12_meanFrom e) B hw hz hc0 ((if_some eK).1) (by decide) (ci := 12) rfl rfl my_X12_meanFrom mv_X12_meanFrom tw_8_51 ⟨by simp only [rmO, rmA]; omega, by simp only [rmO, rmA]; omega⟩ ⟨Nat.zero_le _, Nat.zero_le _⟩ rfl hl.1 rfl rfl (Nat.le_of_ble_eq_true rfl) dX12_drawnMean_18 (fun H locs hw => ?_)
    refine lv_goto (tgt := 25) hx hb dX12_drawnMean_21 (by decide) ?_
    obtain ⟨rfl, rfl⟩ := so2 hf
    exact q_lret B hw hz hc0 hr hlk dX12_drawnMean_25
set_option maxHeartbeats 4000000 in
theorem co_X12_livedMean {l : Launch} {s0 : State} {E : Ev} (G : Gl s0 E) {n : Nat} {d : Nat} {g_X12_drawnMean : Sh → Hp → Nat → Int32 → Option (Int64 × Hp)} {g_X12_livedMean : Sh → Hp → Nat → Int32 → Int32 → Option (Int64 × Hp)} {g_X12_meanFrom : Sh → Hp → Nat → Int32 → Option (Int64 × Hp)} (H_X12_drawnMean : ∀ {z : Sh} {h : Hp} {v0 : Nat} {v1 : Int32} {r : Int64} {h' : Hp}, g_X12_drawnMean z h v0 v1 = some (r, h') → Ct l s0 E yX12_drawnMean cX12_drawnMean 2 (some .long) (5 + d) (94 + 60 * d) [.ref v0, .int v1] z h h' (some (.long r))) (H_X12_livedMean : ∀ {z : Sh} {h : Hp} {v0 : Nat} {v1 : Int32} {v2 : Int32} {r : Int64} {h' : Hp}, g_X12_livedMean z h v0 v1 v2 = some (r, h') → Ct l s0 E yX12_livedMean cX12_livedMean 3 (some .long) (5 + d) (94 + 60 * d) [.ref v0, .int v1, .int v2] z h h' (some (.long r))) (H_X12_meanFrom : ∀ {z : Sh} {h : Hp} {v0 : Nat} {v1 : Int32} {r : Int64} {h' : Hp}, g_X12_meanFrom z h v0 v1 = some (r, h') → Ct l s0 E yX12_meanFrom cX12_meanFrom 7 (some .long) (5 + d) (94 + 60 * d) [.ref v0, .int v1] z h h' (some (.long r))) {z : Sh} {h : Hp} {v0 : Nat} {v1 : Int32} {v2 : Int32} {r : Int64} {h' : Hp} (hf : F_X12_livedMean n g_X12_drawnMean g_X12_livedMean g_X12_meanFrom z h v0 v1 v2 = some (r, h')) : Ct l s0 E yX12_livedMean cX12_livedMean 3 (some .long) (5 + (d + 1)) (94 + 60 * (d + 1)) [.ref v0, .int v1, .int v2] z h h' (some (.long r)) := by
  refine Ct.of G (by decide) (Nat.le_of_ble_eq_true rfl) ?_
  intro p e s m below meth c ls B hw hz hc0 hr hlk hl
  have B : Bd p s0 s E m c cX12_livedMean 3 RX12 := B
  have hx := B.1
  have hb := B.2.1
  have hl : lv_has ls 3 [(0, .ref v0), (1, .int v1), (2, .int v2)] := hl
  unfold F_X12_livedMean at hf
  obtain ⟨_, hf⟩ := if_some hf
  refine lv_aload_n hx hb dX12_livedMean_0 rfl (lv_at hl 0 rfl) ?_
  refine lv_aload_n hx hb dX12_livedMean_1 rfl (lv_at hl 0 rfl) ?_
  obtain ⟨x1, e, hf⟩ := ob hf
  refine q_getI e B hw fd_12_25.1 fd_12_25.2.1 fd_12_25.2.2.1 fd_12_25.2.2.2.1 fd_12_25.2.2.2.2 rfl tw_6_68 dX12_livedMean_2 ?_
  refine lv_iload_n hx hb dX12_livedMean_5 rfl (lv_at hl 1 rfl) ?_
  refine lv_iload_n hx hb dX12_livedMean_6 rfl (lv_at hl 2 rfl) ?_
  obtain ⟨⟨x2, h3⟩, e, hf⟩ := ob hf
  refine q_callV (As := [.int x1, .int v1, .int v2]) (rest := []) (st1 := [.int x2]) (c_X12_worthOf G e) B hw hz hc0 (k_X12_worthOf e) (by decide) (ci := 12) rfl rfl my_X12_worthOf mv_X12_worthOf tw_7_62 ⟨by simp only [rmO, rmA]; omega, by simp only [rmO, rmA]; omega⟩ ⟨Nat.zero_le _, Nat.zero_le _⟩ rfl hl.1 rfl rfl (Nat.le_of_ble_eq_true rfl) dX12_livedMean_7 (fun H locs hw => ?_)
  refine lv_i2l (v := (Int32.toInt64 x2)) hx hb dX12_livedMean_10 rfl ?_
  refine lv_ldc2 hx hb B.2.2.2.1 (B.w tw_8_63 rfl) dX12_livedMean_11 ?_
  refine lv_lmul hx hb dX12_livedMean_14 ?_
  refine lv_aload_n hx hb dX12_livedMean_15 rfl (lv_at hl 0 rfl) ?_
  refine lv_iload_n hx hb dX12_livedMean_16 rfl (lv_at hl 1 rfl) ?_
  refine lv_iload_n hx hb dX12_livedMean_17 rfl (lv_at hl 2 rfl) ?_
  obtain ⟨x4, e, hf⟩ := ob hf
  refine q_callS (As := [.int v1, .int v2]) (rest := [.ref v0, .long ((Int32.toInt64 x2) * 1000000000000)]) (st1 := [.int x4, .ref v0, .long ((Int32.toInt64 x2) * 1000000000000)]) (c_X12_livedTo G e) B hw hz hc0 my_X12_livedTo mv_X12_livedTo tw_7_112 ⟨by simp only [rmO, rmA]; omega, by simp only [rmO, rmA]; omega⟩ ⟨Nat.zero_le _, Nat.zero_le _⟩ rfl hl.1 rfl rfl (Nat.le_of_ble_eq_true rfl) dX12_livedMean_18 (fun H locs hw => ?_)
  obtain ⟨_, eK, hf⟩ := ob hf
  obtain ⟨⟨x5, h6⟩, e, hf⟩ := ob hf
  refine q_callV (As := [.int x4]) (rest := [.long ((Int32.toInt64 x2) * 1000000000000)]) (st1 := [.long x5, .long ((Int32.toInt64 x2) * 1000000000000)]) (H_X12_meanFrom e) B hw hz hc0 ((if_some eK).1) (by decide) (ci := 12) rfl rfl my_X12_meanFrom mv_X12_meanFrom tw_8_51 ⟨by simp only [rmO, rmA]; omega, by simp only [rmO, rmA]; omega⟩ ⟨Nat.zero_le _, Nat.zero_le _⟩ rfl hl.1 rfl rfl (Nat.le_of_ble_eq_true rfl) dX12_livedMean_21 (fun H locs hw => ?_)
  refine lv_ladd hx hb dX12_livedMean_24 ?_
  refine lv_ldc2 hx hb B.2.2.2.1 (B.w tw_7_170 rfl) dX12_livedMean_25 ?_
  obtain ⟨x7, e, hf⟩ := ob hf
  refine q_ldiv e hx hb dX12_livedMean_28 ?_
  refine lv_bipush (v := 10) hx hb dX12_livedMean_29 (by decide) ?_
  refine lv_aload_n hx hb dX12_livedMean_31 rfl (lv_at hl 0 rfl) ?_
  obtain ⟨a8, e, hf⟩ := ob hf
  refine q_getR e B hw fd_12_1.1 fd_12_1.2.1 fd_12_1.2.2.1 fd_12_1.2.2.2.1 fd_12_1.2.2.2.2 rfl tw_6_44 dX12_livedMean_32 ?_
  refine lv_iconst (v := 4) hx hb dX12_livedMean_35 (by decide) ?_
  obtain ⟨x9, e, hf⟩ := ob hf
  refine q_ldI e B hw dX12_livedMean_36 ?_
  refine lv_isub hx hb dX12_livedMean_37 ?_
  refine lv_i2l (v := (Int32.toInt64 (10 - x9))) hx hb dX12_livedMean_38 rfl ?_
  refine lv_lmul hx hb dX12_livedMean_39 ?_
  refine lv_aload_n hx hb dX12_livedMean_40 rfl (lv_at hl 0 rfl) ?_
  refine lv_iload_n hx hb dX12_livedMean_41 rfl (lv_at hl 1 rfl) ?_
  obtain ⟨_, eK, hf⟩ := ob hf
  obtain ⟨⟨x10, h11⟩, e, hf⟩ := ob hf
  refine q_callV (As := [.int v1]) (rest := [.long (x7 * (Int32.toInt64 (10 - x9)))]) (st1 := [.long x10, .long (x7 * (Int32.toInt64 (10 - x9)))]) (H_X12_drawnMean e) B hw hz hc0 ((if_some eK).1) (by decide) (ci := 12) rfl rfl my_X12_drawnMean mv_X12_drawnMean tw_8_55 ⟨by simp only [rmO, rmA]; omega, by simp only [rmO, rmA]; omega⟩ ⟨Nat.zero_le _, Nat.zero_le _⟩ rfl hl.1 rfl rfl (Nat.le_of_ble_eq_true rfl) dX12_livedMean_42 (fun H locs hw => ?_)
  refine lv_ldc2 hx hb B.2.2.2.1 (B.w tw_7_170 rfl) dX12_livedMean_45 ?_
  obtain ⟨x12, e, hf⟩ := ob hf
  refine q_ldiv e hx hb dX12_livedMean_48 ?_
  refine lv_aload_n hx hb dX12_livedMean_49 rfl (lv_at hl 0 rfl) ?_
  obtain ⟨a13, e, hf⟩ := ob hf
  refine q_getR e B hw fd_12_1.1 fd_12_1.2.1 fd_12_1.2.2.1 fd_12_1.2.2.2.1 fd_12_1.2.2.2.2 rfl tw_6_44 dX12_livedMean_50 ?_
  refine lv_iconst (v := 4) hx hb dX12_livedMean_53 (by decide) ?_
  obtain ⟨x14, e, hf⟩ := ob hf
  refine q_ldI e B hw dX12_livedMean_54 ?_
  refine lv_i2l (v := (Int32.toInt64 x14)) hx hb dX12_livedMean_55 rfl ?_
  refine lv_lmul hx hb dX12_livedMean_56 ?_
  refine lv_ladd hx hb dX12_livedMean_57 ?_
  obtain ⟨rfl, rfl⟩ := so2 hf
  exact q_lret B hw hz hc0 hr hlk dX12_livedMean_58
set_option maxHeartbeats 4000000 in
theorem w_X12_meanFrom_87 {p : Program} {l : Launch} {e : Env} {s : State} {m : MethodId} {args : Array Value} {below : List Frame} {meth : Method} {c : Code} {s0 : State} {E : Ev} {z : Sh} {d : Nat} {g_X12_drawnMean : Sh → Hp → Nat → Int32 → Option (Int64 × Hp)} {g_X12_livedMean : Sh → Hp → Nat → Int32 → Int32 → Option (Int64 × Hp)} {g_X12_meanFrom : Sh → Hp → Nat → Int32 → Option (Int64 × Hp)} {n : Nat} {r : Int64} {h' : Hp} (G : Gl s0 E) (B : Bd p s0 s E m c cX12_meanFrom 7 RX12) (hz : s0.heap.size ≤ z.sz) (hc0 : s.heap.size + 0 = z.sz) (hr : meth.sig.returnType = (some .long)) (hlk : meth.locks = false) (H_X12_drawnMean : ∀ {z : Sh} {h : Hp} {v0 : Nat} {v1 : Int32} {r : Int64} {h' : Hp}, g_X12_drawnMean z h v0 v1 = some (r, h') → Ct l s0 E yX12_drawnMean cX12_drawnMean 2 (some .long) (5 + d) (94 + 60 * d) [.ref v0, .int v1] z h h' (some (.long r))) (H_X12_livedMean : ∀ {z : Sh} {h : Hp} {v0 : Nat} {v1 : Int32} {v2 : Int32} {r : Int64} {h' : Hp}, g_X12_livedMean z h v0 v1 v2 = some (r, h') → Ct l s0 E yX12_livedMean cX12_livedMean 3 (some .long) (5 + d) (94 + 60 * d) [.ref v0, .int v1, .int v2] z h h' (some (.long r))) (H_X12_meanFrom : ∀ {z : Sh} {h : Hp} {v0 : Nat} {v1 : Int32} {r : Int64} {h' : Hp}, g_X12_meanFrom z h v0 v1 = some (r, h') → Ct l s0 E yX12_meanFrom cX12_meanFrom 7 (some .long) (5 + d) (94 + 60 * d) [.ref v0, .int v1] z h h' (some (.long r))) : ∀ (h : Hp) (v0 : Nat) (v1 : Int32) (v2 : Int64) (H : Heap) (locs : List Loc) (ls : Array Slot), Pw s0 s E z h H locs → lv_has ls 7 [(0, .ref v0), (1, .int v1), (2, .long v2)] → f_X12_meanFrom_87 n g_X12_drawnMean g_X12_livedMean g_X12_meanFrom z h v0 v1 v2 = some (r, h') → W p l e (rmO (5 + (d + 1)) (94 + 60 * (d + 1))) s m args below meth c H locs 0 0 (Zt below s0 E z h' (some (.long r)) args s 0 0) (F0 m 87 ls []) := by
  have hx := B.1
  have hb := B.2.1
  intro h v0 v1 v2 H locs ls hw hl hf
  unfold f_X12_meanFrom_87 at hf
  refine lv_aload_n hx hb dX12_meanFrom_87 rfl (lv_at hl 0 rfl) ?_
  obtain ⟨a1, e, hf⟩ := ob hf
  refine q_getR e B hw fd_12_29.1 fd_12_29.2.1 fd_12_29.2.2.1 fd_12_29.2.2.2.1 fd_12_29.2.2.2.2 rfl tw_6_72 dX12_meanFrom_88 ?_
  refine lv_iload_n hx hb dX12_meanFrom_91 rfl (lv_at hl 1 rfl) ?_
  refine lv_lload_n hx hb dX12_meanFrom_92 rfl (lv_at hl 2 rfl) ?_
  obtain ⟨h2, e, hf⟩ := ob hf
  refine q_stJ e B hw dX12_meanFrom_93 (fun H locs hw => ?_)
  refine lv_aload_n hx hb dX12_meanFrom_94 rfl (lv_at hl 0 rfl) ?_
  obtain ⟨a3, e, hf⟩ := ob hf
  refine q_getR e B hw fd_12_24.1 fd_12_24.2.1 fd_12_24.2.2.1 fd_12_24.2.2.2.1 fd_12_24.2.2.2.2 rfl tw_6_67 dX12_meanFrom_95 ?_
  refine lv_iload_n hx hb dX12_meanFrom_98 rfl (lv_at hl 1 rfl) ?_
  refine lv_iconst (v := 1) hx hb dX12_meanFrom_99 (by decide) ?_
  obtain ⟨h4, e, hf⟩ := ob hf
  refine q_stZ e B hw dX12_meanFrom_100 (fun H locs hw => ?_)
  refine lv_lload_n hx hb dX12_meanFrom_101 rfl (lv_at hl 2 rfl) ?_
  obtain ⟨rfl, rfl⟩ := so2 hf
  exact q_lret B hw hz hc0 hr hlk dX12_meanFrom_102
set_option maxHeartbeats 4000000 in
theorem w_X12_meanFrom_80 {p : Program} {l : Launch} {e : Env} {s : State} {m : MethodId} {args : Array Value} {below : List Frame} {meth : Method} {c : Code} {s0 : State} {E : Ev} {z : Sh} {d : Nat} {g_X12_drawnMean : Sh → Hp → Nat → Int32 → Option (Int64 × Hp)} {g_X12_livedMean : Sh → Hp → Nat → Int32 → Int32 → Option (Int64 × Hp)} {g_X12_meanFrom : Sh → Hp → Nat → Int32 → Option (Int64 × Hp)} {n : Nat} {k39 : Hp → Nat → Int32 → Int64 → Int32 → Option (Int64 × Hp)} {r : Int64} {h' : Hp} (G : Gl s0 E) (B : Bd p s0 s E m c cX12_meanFrom 7 RX12) (hz : s0.heap.size ≤ z.sz) (hc0 : s.heap.size + 0 = z.sz) (hr : meth.sig.returnType = (some .long)) (hlk : meth.locks = false) (H_X12_drawnMean : ∀ {z : Sh} {h : Hp} {v0 : Nat} {v1 : Int32} {r : Int64} {h' : Hp}, g_X12_drawnMean z h v0 v1 = some (r, h') → Ct l s0 E yX12_drawnMean cX12_drawnMean 2 (some .long) (5 + d) (94 + 60 * d) [.ref v0, .int v1] z h h' (some (.long r))) (H_X12_livedMean : ∀ {z : Sh} {h : Hp} {v0 : Nat} {v1 : Int32} {v2 : Int32} {r : Int64} {h' : Hp}, g_X12_livedMean z h v0 v1 v2 = some (r, h') → Ct l s0 E yX12_livedMean cX12_livedMean 3 (some .long) (5 + d) (94 + 60 * d) [.ref v0, .int v1, .int v2] z h h' (some (.long r))) (H_X12_meanFrom : ∀ {z : Sh} {h : Hp} {v0 : Nat} {v1 : Int32} {r : Int64} {h' : Hp}, g_X12_meanFrom z h v0 v1 = some (r, h') → Ct l s0 E yX12_meanFrom cX12_meanFrom 7 (some .long) (5 + d) (94 + 60 * d) [.ref v0, .int v1] z h h' (some (.long r))) (hk39 : ∀ (h : Hp) (v0 : Nat) (v1 : Int32) (v2 : Int64) (v4 : Int32) (H : Heap) (locs : List Loc) (ls : Array Slot), Pw s0 s E z h H locs → lv_has ls 7 [(0, .ref v0), (1, .int v1), (2, .long v2), (4, .int v4)] → k39 h v0 v1 v2 v4 = some (r, h') → W p l e (rmO (5 + (d + 1)) (94 + 60 * (d + 1))) s m args below meth c H locs 0 0 (Zt below s0 E z h' (some (.long r)) args s 0 0) (F0 m 39 ls [])) : ∀ (h : Hp) (v0 : Nat) (v1 : Int32) (v4 : Int32) (u0 : Int64) (H : Heap) (locs : List Loc) (ls : Array Slot), Pw s0 s E z h H locs → lv_has ls 7 [(0, .ref v0), (1, .int v1), (4, .int v4)] → f_X12_meanFrom_80 n g_X12_drawnMean g_X12_livedMean g_X12_meanFrom z k39 h v0 v1 v4 u0 = some (r, h') → W p l e (rmO (5 + (d + 1)) (94 + 60 * (d + 1))) s m args below meth c H locs 0 0 (Zt below s0 E z h' (some (.long r)) args s 0 0) (F0 m 80 ls [.long u0]) := by
  have hx := B.1
  have hb := B.2.1
  intro h v0 v1 v4 u0 H locs ls hw hl hf
  unfold f_X12_meanFrom_80 at hf
  refine lv_lstore_n (lv' := [(2, .long u0), (0, .ref v0), (1, .int v1), (4, .int v4)]) hx hb dX12_meanFrom_80 rfl hl (by decide) rfl (fun ls hl => ?_)
  obtain ⟨x1, e, hf⟩ := ob hf
  refine lv_iinc (v := x1) (lv' := [(4, .int x1), (2, .long u0), (0, .ref v0), (1, .int v1)]) hx hb dX12_meanFrom_81 hl (k := 3) rfl (Option.some.inj e) (by decide) rfl (fun ls hl => ?_)
  refine lv_goto (tgt := 39) hx hb dX12_meanFrom_84 (by decide) ?_
  exact hk39 h v0 v1 u0 x1 _ _ _ hw (lv_sub hl [2, 3, 1, 0] rfl) hf
set_option maxHeartbeats 4000000 in
theorem w_X12_meanFrom_39 {p : Program} {l : Launch} {e : Env} {s : State} {m : MethodId} {args : Array Value} {below : List Frame} {meth : Method} {c : Code} {s0 : State} {E : Ev} {z : Sh} {d : Nat} {g_X12_drawnMean : Sh → Hp → Nat → Int32 → Option (Int64 × Hp)} {g_X12_livedMean : Sh → Hp → Nat → Int32 → Int32 → Option (Int64 × Hp)} {g_X12_meanFrom : Sh → Hp → Nat → Int32 → Option (Int64 × Hp)} {n : Nat} {r : Int64} {h' : Hp} (G : Gl s0 E) (B : Bd p s0 s E m c cX12_meanFrom 7 RX12) (hz : s0.heap.size ≤ z.sz) (hc0 : s.heap.size + 0 = z.sz) (hr : meth.sig.returnType = (some .long)) (hlk : meth.locks = false) (H_X12_drawnMean : ∀ {z : Sh} {h : Hp} {v0 : Nat} {v1 : Int32} {r : Int64} {h' : Hp}, g_X12_drawnMean z h v0 v1 = some (r, h') → Ct l s0 E yX12_drawnMean cX12_drawnMean 2 (some .long) (5 + d) (94 + 60 * d) [.ref v0, .int v1] z h h' (some (.long r))) (H_X12_livedMean : ∀ {z : Sh} {h : Hp} {v0 : Nat} {v1 : Int32} {v2 : Int32} {r : Int64} {h' : Hp}, g_X12_livedMean z h v0 v1 v2 = some (r, h') → Ct l s0 E yX12_livedMean cX12_livedMean 3 (some .long) (5 + d) (94 + 60 * d) [.ref v0, .int v1, .int v2] z h h' (some (.long r))) (H_X12_meanFrom : ∀ {z : Sh} {h : Hp} {v0 : Nat} {v1 : Int32} {r : Int64} {h' : Hp}, g_X12_meanFrom z h v0 v1 = some (r, h') → Ct l s0 E yX12_meanFrom cX12_meanFrom 7 (some .long) (5 + d) (94 + 60 * d) [.ref v0, .int v1] z h h' (some (.long r))) : ∀ (i : Nat), ∀ (h : Hp) (v0 : Nat) (v1 : Int32) (v2 : Int64) (v4 : Int32) (H : Heap) (locs : List Loc) (ls : Array Slot), Pw s0 s E z h H locs → lv_has ls 7 [(0, .ref v0), (1, .int v1), (2, .long v2), (4, .int v4)] → f_X12_meanFrom_39 n g_X12_drawnMean g_X12_livedMean g_X12_meanFrom z i h v0 v1 v2 v4 = some (r, h') → W p l e (rmO (5 + (d + 1)) (94 + 60 * (d + 1))) s m args below meth c H locs 0 0 (Zt below s0 E z h' (some (.long r)) args s 0 0) (F0 m 39 ls []) := by
  have hx := B.1
  have hb := B.2.1
  intro i
  induction i with
  | zero =>
    intro h v0 v1 v2 v4 H locs ls hw hl hf
    have hf := (f_X12_meanFrom_39.eq_1 ..).symm.trans hf
    cases hf
  | succ i ih =>
    intro h v0 v1 v2 v4 H locs ls hw hl hf
    have hf := (f_X12_meanFrom_39.eq_2 ..).symm.trans hf
    refine lv_iload hx hb dX12_meanFrom_39 (lv_at hl 3 rfl) ?_
    refine lv_aload_n hx hb dX12_meanFrom_41 rfl (lv_at hl 0 rfl) ?_
    obtain ⟨a1, e, hf⟩ := ob hf
    refine q_getR e B hw fd_12_1.1 fd_12_1.2.1 fd_12_1.2.2.1 fd_12_1.2.2.2.1 fd_12_1.2.2.2.2 rfl tw_6_44 dX12_meanFrom_42 ?_
    refine lv_iconst (v := 2) hx hb dX12_meanFrom_45 (by decide) ?_
    obtain ⟨x2, e, hf⟩ := ob hf
    refine q_ldI e B hw dX12_meanFrom_46 ?_
    refine lv_icmp_ge (tgt := 87) hx hb dX12_meanFrom_47 (by decide) (fun c3 => ?_) (fun c3 => ?_)
    · have hf := (if_pos c3).symm.trans hf
      exact w_X12_meanFrom_87 G B hz hc0 hr hlk H_X12_drawnMean H_X12_livedMean H_X12_meanFrom  h v0 v1 v2 _ _ _ hw (lv_sub hl [0, 1, 2] rfl) hf
    · have hf := (if_neg c3).symm.trans hf
      refine lv_aload_n hx hb dX12_meanFrom_50 rfl (lv_at hl 0 rfl) ?_
      refine lv_iload_n hx hb dX12_meanFrom_51 rfl (lv_at hl 1 rfl) ?_
      obtain ⟨x4, e, hf⟩ := ob hf
      refine q_callV (As := [.int v1]) (rest := []) (st1 := [.int x4]) (c_X12_isOver G e) B hw hz hc0 (k_X12_isOver e) (by decide) (ci := 12) rfl rfl my_X12_isOver mv_X12_isOver tw_7_55 ⟨by simp only [rmO, rmA]; omega, by simp only [rmO, rmA]; omega⟩ ⟨Nat.zero_le _, Nat.zero_le _⟩ rfl hl.1 rfl rfl (Nat.le_of_ble_eq_true rfl) dX12_meanFrom_52 (fun H locs hw => ?_)
      refine lv_if_ne (tgt := 87) hx hb dX12_meanFrom_55 (by decide) (fun c5 => ?_) (fun c5 => ?_)
      · have hf := (if_neg c5).symm.trans hf
        exact w_X12_meanFrom_87 G B hz hc0 hr hlk H_X12_drawnMean H_X12_livedMean H_X12_meanFrom  h v0 v1 v2 _ _ _ hw (lv_sub hl [0, 1, 2] rfl) hf
      · have hf := (if_pos c5).symm.trans hf
        refine lv_aload_n hx hb dX12_meanFrom_58 rfl (lv_at hl 0 rfl) ?_
        refine lv_iload_n hx hb dX12_meanFrom_59 rfl (lv_at hl 1 rfl) ?_
        refine lv_iload hx hb dX12_meanFrom_60 (lv_at hl 3 rfl) ?_
        obtain ⟨_, eK, hf⟩ := ob hf
        obtain ⟨⟨x6, h7⟩, e, hf⟩ := ob hf
        refine q_callV (As := [.int v1, .int v4]) (rest := []) (st1 := [.long x6]) (H_X12_livedMean e) B hw hz hc0 ((if_some eK).1) (by decide) (ci := 12) rfl rfl my_X12_livedMean mv_X12_livedMean tw_8_59 ⟨by simp only [rmO, rmA]; omega, by simp only [rmO, rmA]; omega⟩ ⟨Nat.zero_le _, Nat.zero_le _⟩ rfl hl.1 rfl rfl (Nat.le_of_ble_eq_true rfl) dX12_meanFrom_62 (fun H locs hw => ?_)
        refine lv_lstore (lv' := [(5, .long x6), (0, .ref v0), (1, .int v1), (2, .long v2), (4, .int v4)]) hx hb dX12_meanFrom_65 hl (by decide) rfl (fun ls hl => ?_)
        refine lv_lload hx hb dX12_meanFrom_67 (lv_at hl 0 rfl) ?_
        refine lv_lload_n hx hb dX12_meanFrom_69 rfl (lv_at hl 3 rfl) ?_
        refine W.lcmp hx hb dX12_meanFrom_70 ?_
        refine lv_if_le (tgt := 79) hx hb dX12_meanFrom_71 (by decide) (fun c8 => ?_) (fun c8 => ?_)
        · have hf := (if_pos c8).symm.trans hf
          refine lv_lload_n hx hb dX12_meanFrom_79 rfl (lv_at hl 3 rfl) ?_
          exact w_X12_meanFrom_80 G B hz hc0 hr hlk H_X12_drawnMean H_X12_livedMean H_X12_meanFrom ih h7 v0 v1 v4 v2 _ _ _ hw (lv_sub hl [1, 2, 4] rfl) hf
        · have hf := (if_neg c8).symm.trans hf
          refine lv_lload hx hb dX12_meanFrom_74 (lv_at hl 0 rfl) ?_
          refine lv_goto (tgt := 80) hx hb dX12_meanFrom_76 (by decide) ?_
          exact w_X12_meanFrom_80 G B hz hc0 hr hlk H_X12_drawnMean H_X12_livedMean H_X12_meanFrom ih h7 v0 v1 v4 x6 _ _ _ hw (lv_sub hl [1, 2, 4] rfl) hf
set_option maxHeartbeats 4000000 in
theorem w_X12_meanFrom_35 {p : Program} {l : Launch} {e : Env} {s : State} {m : MethodId} {args : Array Value} {below : List Frame} {meth : Method} {c : Code} {s0 : State} {E : Ev} {z : Sh} {d : Nat} {g_X12_drawnMean : Sh → Hp → Nat → Int32 → Option (Int64 × Hp)} {g_X12_livedMean : Sh → Hp → Nat → Int32 → Int32 → Option (Int64 × Hp)} {g_X12_meanFrom : Sh → Hp → Nat → Int32 → Option (Int64 × Hp)} {n : Nat} {r : Int64} {h' : Hp} (G : Gl s0 E) (B : Bd p s0 s E m c cX12_meanFrom 7 RX12) (hz : s0.heap.size ≤ z.sz) (hc0 : s.heap.size + 0 = z.sz) (hr : meth.sig.returnType = (some .long)) (hlk : meth.locks = false) (H_X12_drawnMean : ∀ {z : Sh} {h : Hp} {v0 : Nat} {v1 : Int32} {r : Int64} {h' : Hp}, g_X12_drawnMean z h v0 v1 = some (r, h') → Ct l s0 E yX12_drawnMean cX12_drawnMean 2 (some .long) (5 + d) (94 + 60 * d) [.ref v0, .int v1] z h h' (some (.long r))) (H_X12_livedMean : ∀ {z : Sh} {h : Hp} {v0 : Nat} {v1 : Int32} {v2 : Int32} {r : Int64} {h' : Hp}, g_X12_livedMean z h v0 v1 v2 = some (r, h') → Ct l s0 E yX12_livedMean cX12_livedMean 3 (some .long) (5 + d) (94 + 60 * d) [.ref v0, .int v1, .int v2] z h h' (some (.long r))) (H_X12_meanFrom : ∀ {z : Sh} {h : Hp} {v0 : Nat} {v1 : Int32} {r : Int64} {h' : Hp}, g_X12_meanFrom z h v0 v1 = some (r, h') → Ct l s0 E yX12_meanFrom cX12_meanFrom 7 (some .long) (5 + d) (94 + 60 * d) [.ref v0, .int v1] z h h' (some (.long r))) : ∀ (h : Hp) (v0 : Nat) (v1 : Int32) (u0 : Int64) (H : Heap) (locs : List Loc) (ls : Array Slot), Pw s0 s E z h H locs → lv_has ls 7 [(0, .ref v0), (1, .int v1)] → f_X12_meanFrom_35 n g_X12_drawnMean g_X12_livedMean g_X12_meanFrom z h v0 v1 u0 = some (r, h') → W p l e (rmO (5 + (d + 1)) (94 + 60 * (d + 1))) s m args below meth c H locs 0 0 (Zt below s0 E z h' (some (.long r)) args s 0 0) (F0 m 35 ls [.long u0]) := by
  have hx := B.1
  have hb := B.2.1
  intro h v0 v1 u0 H locs ls hw hl hf
  unfold f_X12_meanFrom_35 at hf
  refine lv_lstore_n (lv' := [(2, .long u0), (0, .ref v0), (1, .int v1)]) hx hb dX12_meanFrom_35 rfl hl (by decide) rfl (fun ls hl => ?_)
  refine lv_iconst (v := 0) hx hb dX12_meanFrom_36 (by decide) ?_
  refine lv_istore (lv' := [(4, .int 0), (2, .long u0), (0, .ref v0), (1, .int v1)]) hx hb dX12_meanFrom_37 hl (by decide) rfl (fun ls hl => ?_)
  exact w_X12_meanFrom_39 G B hz hc0 hr hlk H_X12_drawnMean H_X12_livedMean H_X12_meanFrom  n h v0 v1 u0 0 _ _ _ hw (lv_sub hl [2, 3, 1, 0] rfl) hf
set_option maxHeartbeats 4000000 in
theorem co_X12_meanFrom {l : Launch} {s0 : State} {E : Ev} (G : Gl s0 E) {n : Nat} {d : Nat} {g_X12_drawnMean : Sh → Hp → Nat → Int32 → Option (Int64 × Hp)} {g_X12_livedMean : Sh → Hp → Nat → Int32 → Int32 → Option (Int64 × Hp)} {g_X12_meanFrom : Sh → Hp → Nat → Int32 → Option (Int64 × Hp)} (H_X12_drawnMean : ∀ {z : Sh} {h : Hp} {v0 : Nat} {v1 : Int32} {r : Int64} {h' : Hp}, g_X12_drawnMean z h v0 v1 = some (r, h') → Ct l s0 E yX12_drawnMean cX12_drawnMean 2 (some .long) (5 + d) (94 + 60 * d) [.ref v0, .int v1] z h h' (some (.long r))) (H_X12_livedMean : ∀ {z : Sh} {h : Hp} {v0 : Nat} {v1 : Int32} {v2 : Int32} {r : Int64} {h' : Hp}, g_X12_livedMean z h v0 v1 v2 = some (r, h') → Ct l s0 E yX12_livedMean cX12_livedMean 3 (some .long) (5 + d) (94 + 60 * d) [.ref v0, .int v1, .int v2] z h h' (some (.long r))) (H_X12_meanFrom : ∀ {z : Sh} {h : Hp} {v0 : Nat} {v1 : Int32} {r : Int64} {h' : Hp}, g_X12_meanFrom z h v0 v1 = some (r, h') → Ct l s0 E yX12_meanFrom cX12_meanFrom 7 (some .long) (5 + d) (94 + 60 * d) [.ref v0, .int v1] z h h' (some (.long r))) {z : Sh} {h : Hp} {v0 : Nat} {v1 : Int32} {r : Int64} {h' : Hp} (hf : F_X12_meanFrom n g_X12_drawnMean g_X12_livedMean g_X12_meanFrom z h v0 v1 = some (r, h')) : Ct l s0 E yX12_meanFrom cX12_meanFrom 7 (some .long) (5 + (d + 1)) (94 + 60 * (d + 1)) [.ref v0, .int v1] z h h' (some (.long r)) := by
  refine Ct.of G (by decide) (Nat.le_of_ble_eq_true rfl) ?_
  intro p e s m below meth c ls B hw hz hc0 hr hlk hl
  have B : Bd p s0 s E m c cX12_meanFrom 7 RX12 := B
  have hx := B.1
  have hb := B.2.1
  have hl : lv_has ls 7 [(0, .ref v0), (1, .int v1)] := hl
  unfold F_X12_meanFrom at hf
  obtain ⟨_, hf⟩ := if_some hf
  refine lv_aload_n hx hb dX12_meanFrom_0 rfl (lv_at hl 0 rfl) ?_
  obtain ⟨a1, e, hf⟩ := ob hf
  refine q_getR e B hw fd_12_24.1 fd_12_24.2.1 fd_12_24.2.2.1 fd_12_24.2.2.2.1 fd_12_24.2.2.2.2 rfl tw_6_67 dX12_meanFrom_1 ?_
  refine lv_iload_n hx hb dX12_meanFrom_4 rfl (lv_at hl 1 rfl) ?_
  obtain ⟨x2, e, hf⟩ := ob hf
  refine q_ldZ e B hw dX12_meanFrom_5 ?_
  refine lv_if_eq (tgt := 16) hx hb dX12_meanFrom_6 (by decide) (fun c3 => ?_) (fun c3 => ?_)
  · have hf := (if_pos c3).symm.trans hf
    refine lv_aload_n hx hb dX12_meanFrom_16 rfl (lv_at hl 0 rfl) ?_
    refine lv_iload_n hx hb dX12_meanFrom_17 rfl (lv_at hl 1 rfl) ?_
    obtain ⟨_, eK, hf⟩ := ob hf
    obtain ⟨⟨x4, h5⟩, e, hf⟩ := ob hf
    refine q_callV (As := [.int v1]) (rest := []) (st1 := [.long x4]) (H_X12_drawnMean e) B hw hz hc0 ((if_some eK).1) (by decide) (ci := 12) rfl rfl my_X12_drawnMean mv_X12_drawnMean tw_8_55 ⟨by simp only [rmO, rmA]; omega, by simp only [rmO, rmA]; omega⟩ ⟨Nat.zero_le _, Nat.zero_le _⟩ rfl hl.1 rfl rfl (Nat.le_of_ble_eq_true rfl) dX12_meanFrom_18 (fun H locs hw => ?_)
    refine lv_lconst (v := 0) hx hb dX12_meanFrom_21 (by decide) ?_
    refine W.lcmp hx hb dX12_meanFrom_22 ?_
    refine lv_if_le (tgt := 34) hx hb dX12_meanFrom_23 (by decide) (fun c6 => ?_) (fun c6 => ?_)
    · have hf := (if_pos c6).symm.trans hf
      refine lv_lconst (v := 0) hx hb dX12_meanFrom_34 (by decide) ?_
      exact w_X12_meanFrom_35 G B hz hc0 hr hlk H_X12_drawnMean H_X12_livedMean H_X12_meanFrom  h5 v0 v1 0 _ _ _ hw (lv_sub hl [0, 1] rfl) hf
    · have hf := (if_neg c6).symm.trans hf
      refine lv_aload_n hx hb dX12_meanFrom_26 rfl (lv_at hl 0 rfl) ?_
      refine lv_iload_n hx hb dX12_meanFrom_27 rfl (lv_at hl 1 rfl) ?_
      obtain ⟨_, eK, hf⟩ := ob hf
      obtain ⟨⟨x7, h8⟩, e, hf⟩ := ob hf
      refine q_callV (As := [.int v1]) (rest := []) (st1 := [.long x7]) (H_X12_drawnMean e) B hw hz hc0 ((if_some eK).1) (by decide) (ci := 12) rfl rfl my_X12_drawnMean mv_X12_drawnMean tw_8_55 ⟨by simp only [rmO, rmA]; omega, by simp only [rmO, rmA]; omega⟩ ⟨Nat.zero_le _, Nat.zero_le _⟩ rfl hl.1 rfl rfl (Nat.le_of_ble_eq_true rfl) dX12_meanFrom_28 (fun H locs hw => ?_)
      refine lv_goto (tgt := 35) hx hb dX12_meanFrom_31 (by decide) ?_
      exact w_X12_meanFrom_35 G B hz hc0 hr hlk H_X12_drawnMean H_X12_livedMean H_X12_meanFrom  h8 v0 v1 x7 _ _ _ hw (lv_sub hl [0, 1] rfl) hf
  · have hf := (if_neg c3).symm.trans hf
    refine lv_aload_n hx hb dX12_meanFrom_9 rfl (lv_at hl 0 rfl) ?_
    obtain ⟨a9, e, hf⟩ := ob hf
    refine q_getR e B hw fd_12_29.1 fd_12_29.2.1 fd_12_29.2.2.1 fd_12_29.2.2.2.1 fd_12_29.2.2.2.2 rfl tw_6_72 dX12_meanFrom_10 ?_
    refine lv_iload_n hx hb dX12_meanFrom_13 rfl (lv_at hl 1 rfl) ?_
    obtain ⟨x10, e, hf⟩ := ob hf
    refine q_ldJ e B hw dX12_meanFrom_14 ?_
    obtain ⟨rfl, rfl⟩ := so2 hf
    exact q_lret B hw hz hc0 hr hlk dX12_meanFrom_15
set_option maxHeartbeats 4000000 in
theorem cg_X12_drawnMean {l : Launch} {s0 : State} {E : Ev} (G : Gl s0 E) {n : Nat} : ∀ d : Nat, (∀ {z : Sh} {h : Hp} {v0 : Nat} {v1 : Int32} {r : Int64} {h' : Hp}, (rc_X12_drawnMean n d).1 z h v0 v1 = some (r, h') → Ct l s0 E yX12_drawnMean cX12_drawnMean 2 (some .long) (5 + d) (94 + 60 * d) [.ref v0, .int v1] z h h' (some (.long r))) ∧ (∀ {z : Sh} {h : Hp} {v0 : Nat} {v1 : Int32} {v2 : Int32} {r : Int64} {h' : Hp}, (rc_X12_drawnMean n d).2.1 z h v0 v1 v2 = some (r, h') → Ct l s0 E yX12_livedMean cX12_livedMean 3 (some .long) (5 + d) (94 + 60 * d) [.ref v0, .int v1, .int v2] z h h' (some (.long r))) ∧ (∀ {z : Sh} {h : Hp} {v0 : Nat} {v1 : Int32} {r : Int64} {h' : Hp}, (rc_X12_drawnMean n d).2.2 z h v0 v1 = some (r, h') → Ct l s0 E yX12_meanFrom cX12_meanFrom 7 (some .long) (5 + d) (94 + 60 * d) [.ref v0, .int v1] z h h' (some (.long r))) := by
  intro d
  induction d with
  | zero => exact ⟨fun hf => (by cases hf), fun hf => (by cases hf), fun hf => (by cases hf)⟩
  | succ d ih => exact ⟨fun hf => co_X12_drawnMean (n := n) G (fun hf => ih.1 hf) (fun hf => ih.2.1 hf) (fun hf => ih.2.2 hf) hf, fun hf => co_X12_livedMean (n := n) G (fun hf => ih.1 hf) (fun hf => ih.2.1 hf) (fun hf => ih.2.2 hf) hf, fun hf => co_X12_meanFrom (n := n) G (fun hf => ih.1 hf) (fun hf => ih.2.1 hf) (fun hf => ih.2.2 hf) hf⟩
theorem c_X12_drawnMean {l : Launch} {s0 : State} {E : Ev} (G : Gl s0 E) {n : Nat} {z : Sh} {h : Hp} {v0 : Nat} {v1 : Int32} {r : Int64} {h' : Hp} (hf : f_X12_drawnMean n z h v0 v1 = some (r, h')) : Ct l s0 E yX12_drawnMean cX12_drawnMean 2 (some .long) 65 3694 [.ref v0, .int v1] z h h' (some (.long r)) := (cg_X12_drawnMean G 60).1 hf
theorem c_X12_livedMean {l : Launch} {s0 : State} {E : Ev} (G : Gl s0 E) {n : Nat} {z : Sh} {h : Hp} {v0 : Nat} {v1 : Int32} {v2 : Int32} {r : Int64} {h' : Hp} (hf : f_X12_livedMean n z h v0 v1 v2 = some (r, h')) : Ct l s0 E yX12_livedMean cX12_livedMean 3 (some .long) 65 3694 [.ref v0, .int v1, .int v2] z h h' (some (.long r)) := (cg_X12_drawnMean G 60).2.1 hf
theorem c_X12_meanFrom {l : Launch} {s0 : State} {E : Ev} (G : Gl s0 E) {n : Nat} {z : Sh} {h : Hp} {v0 : Nat} {v1 : Int32} {r : Int64} {h' : Hp} (hf : f_X12_meanFrom n z h v0 v1 = some (r, h')) : Ct l s0 E yX12_meanFrom cX12_meanFrom 7 (some .long) 65 3694 [.ref v0, .int v1] z h h' (some (.long r)) := (cg_X12_drawnMean G 60).2.2 hf
/-! SecondLifeModel.common(JJ)J -/
def F_X12_common (g_X12_common : Sh → Hp → Int64 → Int64 → Option (Int64)) (z : Sh) (h : Hp) (v0 : Int64) (v2 : Int64) : Option (Int64) :=
  if (lg_cmp v2 0) = 0 then
    some v0
  else
    (rmJ v0 v2).bind fun x2 =>
    (g_X12_common z h v2 x2).bind fun x3 =>
    some x3
def rc_X12_common : Nat → Sh → Hp → Int64 → Int64 → Option (Int64)
  | 0 => (fun _ _ _ _ => none)
  | i + 1 => (F_X12_common (rc_X12_common i))
def f_X12_common (z : Sh) (h : Hp) (v0 : Int64) (v2 : Int64) : Option (Int64) := (rc_X12_common 100) z h v0 v2
set_option maxHeartbeats 4000000 in
theorem co_X12_common {l : Launch} {s0 : State} {E : Ev} (G : Gl s0 E) {d : Nat} {g_X12_common : Sh → Hp → Int64 → Int64 → Option (Int64)} (H_X12_common : ∀ {z : Sh} {h : Hp} {v0 : Int64} {v2 : Int64} {r : Int64}, g_X12_common z h v0 v2 = some r → Ct l s0 E yX12_common cX12_common 4 (some .long) (2 + d) (24 + 60 * d) [.long v0, .long v2] z h h (some (.long r))) {z : Sh} {h : Hp} {v0 : Int64} {v2 : Int64} {r : Int64} (hf : F_X12_common g_X12_common z h v0 v2 = some r) : Ct l s0 E yX12_common cX12_common 4 (some .long) (2 + (d + 1)) (24 + 60 * (d + 1)) [.long v0, .long v2] z h h (some (.long r)) := by
  refine Ct.of G (by decide) (Nat.le_of_ble_eq_true rfl) ?_
  intro p e s m below meth c ls B hw hz hc0 hr hlk hl
  have B : Bd p s0 s E m c cX12_common 4 RX12 := B
  have hx := B.1
  have hb := B.2.1
  have hl : lv_has ls 4 [(0, .long v0), (2, .long v2)] := hl
  unfold F_X12_common at hf
  refine lv_lload_n hx hb dX12_common_0 rfl (lv_at hl 1 rfl) ?_
  refine lv_lconst (v := 0) hx hb dX12_common_1 (by decide) ?_
  refine W.lcmp hx hb dX12_common_2 ?_
  refine lv_if_ne (tgt := 10) hx hb dX12_common_3 (by decide) (fun c1 => ?_) (fun c1 => ?_)
  · have hf := (if_neg c1).symm.trans hf
    refine lv_lload_n hx hb dX12_common_10 rfl (lv_at hl 1 rfl) ?_
    refine lv_lload_n hx hb dX12_common_11 rfl (lv_at hl 0 rfl) ?_
    refine lv_lload_n hx hb dX12_common_12 rfl (lv_at hl 1 rfl) ?_
    obtain ⟨x2, e, hf⟩ := ob hf
    refine q_lrem e hx hb dX12_common_13 ?_
    obtain ⟨x3, e, hf⟩ := ob hf
    refine q_callS (As := [.long v2, .long x2]) (rest := []) (st1 := [.long x3]) (H_X12_common e) B hw hz hc0 my_X12_common mv_X12_common tw_8_67 ⟨by simp only [rmO, rmA]; omega, by simp only [rmO, rmA]; omega⟩ ⟨Nat.zero_le _, Nat.zero_le _⟩ rfl hl.1 rfl rfl (Nat.le_of_ble_eq_true rfl) dX12_common_14 (fun H locs hw => ?_)
    obtain rfl := so hf
    exact q_lret B hw hz hc0 hr hlk dX12_common_17
  · have hf := (if_pos c1).symm.trans hf
    refine lv_lload_n hx hb dX12_common_6 rfl (lv_at hl 0 rfl) ?_
    refine lv_goto (tgt := 17) hx hb dX12_common_7 (by decide) ?_
    obtain rfl := so hf
    exact q_lret B hw hz hc0 hr hlk dX12_common_17
set_option maxHeartbeats 4000000 in
theorem cg_X12_common {l : Launch} {s0 : State} {E : Ev} (G : Gl s0 E) : ∀ d : Nat, (∀ {z : Sh} {h : Hp} {v0 : Int64} {v2 : Int64} {r : Int64}, (rc_X12_common d) z h v0 v2 = some r → Ct l s0 E yX12_common cX12_common 4 (some .long) (2 + d) (24 + 60 * d) [.long v0, .long v2] z h h (some (.long r))) := by
  intro d
  induction d with
  | zero => exact fun hf => by cases hf
  | succ d ih => exact fun hf => co_X12_common G (fun hf => ih hf) hf
theorem c_X12_common {l : Launch} {s0 : State} {E : Ev} (G : Gl s0 E) {z : Sh} {h : Hp} {v0 : Int64} {v2 : Int64} {r : Int64} (hf : f_X12_common z h v0 v2 = some r) : Ct l s0 E yX12_common cX12_common 4 (some .long) 102 6024 [.long v0, .long v2] z h h (some (.long r)) := (cg_X12_common G 100) hf
/-! SecondLifeModel.part(JI)J -/
def f_X12_part_11 (z : Sh) (h : Hp) (v0 : Int64) (u0 : Int64) : Option (Int64) :=
  (f_X12_common z h v0 1000000000000).bind fun x1 =>
  (dvJ u0 x1).bind fun x2 =>
  some x2
def f_X12_part (z : Sh) (h : Hp) (v0 : Int64) (v2 : Int32) : Option (Int64) :=
  if v2 = 0 then
    f_X12_part_11 z h v0 v0
  else
    f_X12_part_11 z h v0 1000000000000
set_option maxHeartbeats 4000000 in
theorem w_X12_part_11 {p : Program} {l : Launch} {e : Env} {s : State} {m : MethodId} {args : Array Value} {below : List Frame} {meth : Method} {c : Code} {s0 : State} {E : Ev} {z : Sh} {h : Hp} {r : Int64} (G : Gl s0 E) (B : Bd p s0 s E m c cX12_part 3 RX12) (hz : s0.heap.size ≤ z.sz) (hc0 : s.heap.size + 0 = z.sz) (hr : meth.sig.returnType = (some .long)) (hlk : meth.locks = false) : ∀ (v0 : Int64) (u0 : Int64) (H : Heap) (locs : List Loc) (ls : Array Slot), Pw s0 s E z h H locs → lv_has ls 3 [(0, .long v0)] → f_X12_part_11 z h v0 u0 = some r → W p l e (rmO 103 6047) s m args below meth c H locs 0 0 (Zt below s0 E z h (some (.long r)) args s 0 0) (F0 m 11 ls [.long u0]) := by
  have hx := B.1
  have hb := B.2.1
  intro v0 u0 H locs ls hw hl hf
  unfold f_X12_part_11 at hf
  refine lv_lload_n hx hb dX12_part_11 rfl (lv_at hl 0 rfl) ?_
  refine lv_ldc2 hx hb B.2.2.2.1 (B.w tw_8_63 rfl) dX12_part_12 ?_
  obtain ⟨x1, e, hf⟩ := ob hf
  refine q_callS (As := [.long v0, .long 1000000000000]) (rest := [.long u0]) (st1 := [.long x1, .long u0]) (c_X12_common G e) B hw hz hc0 my_X12_common mv_X12_common tw_8_67 ⟨Nat.le_of_ble_eq_true rfl, Nat.le_of_ble_eq_true rfl⟩ ⟨Nat.zero_le _, Nat.zero_le _⟩ rfl hl.1 rfl rfl (Nat.le_of_ble_eq_true rfl) dX12_part_15 (fun H locs hw => ?_)
  obtain ⟨x2, e, hf⟩ := ob hf
  refine q_ldiv e hx hb dX12_part_18 ?_
  obtain rfl := so hf
  exact q_lret B hw hz hc0 hr hlk dX12_part_19
set_option maxHeartbeats 4000000 in
theorem c_X12_part {l : Launch} {s0 : State} {E : Ev} (G : Gl s0 E) {z : Sh} {h : Hp} {v0 : Int64} {v2 : Int32} {r : Int64} (hf : f_X12_part z h v0 v2 = some r) : Ct l s0 E yX12_part cX12_part 3 (some .long) 103 6047 [.long v0, .int v2] z h h (some (.long r)) := by
  refine Ct.of G (by decide) (Nat.le_of_ble_eq_true rfl) ?_
  intro p e s m below meth c ls B hw hz hc0 hr hlk hl
  have B : Bd p s0 s E m c cX12_part 3 RX12 := B
  have hx := B.1
  have hb := B.2.1
  have hl : lv_has ls 3 [(0, .long v0), (2, .int v2)] := hl
  unfold f_X12_part at hf
  refine lv_iload_n hx hb dX12_part_0 rfl (lv_at hl 1 rfl) ?_
  refine lv_if_ne (tgt := 8) hx hb dX12_part_1 (by decide) (fun c1 => ?_) (fun c1 => ?_)
  · have hf := (if_neg c1).symm.trans hf
    refine lv_ldc2 hx hb B.2.2.2.1 (B.w tw_8_63 rfl) dX12_part_8 ?_
    exact w_X12_part_11 G B hz hc0 hr hlk  v0 1000000000000 _ _ _ hw (lv_sub hl [0] rfl) hf
  · have hf := (if_pos c1).symm.trans hf
    refine lv_lload_n hx hb dX12_part_4 rfl (lv_at hl 0 rfl) ?_
    refine lv_goto (tgt := 11) hx hb dX12_part_5 (by decide) ?_
    exact w_X12_part_11 G B hz hc0 hr hlk  v0 v0 _ _ _ hw (lv_sub hl [0] rfl) hf
/-! SecondLifeModel.mean(II)J -/
def f_X12_mean (n : Nat) (z : Sh) (h : Hp) (v0 : Nat) (v1 : Int32) (v2 : Int32) : Option (Int64 × Hp) :=
  if z.K v0 = 12 then
    (pI z h 12 v0 0 0).bind fun h1 =>
    (f_X12_isPerson z h1 v0 (Int32.toInt64 v1)).bind fun x2 =>
    if x2 = 0 then
      some (((-99000002) : Int64), h1)
    else
      (f_X12_within z h1 (Int32.toInt64 v2) 0 1).bind fun x4 =>
      if x4 = 0 then
        some (((-99000002) : Int64), h1)
      else
        (f_X12_begins n z h1 v0 v1).bind fun h6 =>
        (f_X12_standNow z h6 v0 v1).bind fun x7 =>
        (f_X12_meanFrom n z h6 v0 x7).bind fun (x8, h9) =>
        (f_X12_part z h9 x8 v2).bind fun x10 =>
        some (x10, h9)
  else none
theorem k_X12_mean {n : Nat} {z : Sh} {h : Hp} {v0 : Nat} {v1 : Int32} {v2 : Int32} {w : Int64 × Hp} (hf : f_X12_mean n z h v0 v1 v2 = some w) : z.K v0 = 12 := by
  unfold f_X12_mean at hf
  exact (if_some hf).1
set_option maxHeartbeats 4000000 in
theorem c_X12_mean {l : Launch} {s0 : State} {E : Ev} (G : Gl s0 E) {n : Nat} {z : Sh} {h : Hp} {v0 : Nat} {v1 : Int32} {v2 : Int32} {r : Int64} {h' : Hp} (hf : f_X12_mean n z h v0 v1 v2 = some (r, h')) : Ct l s0 E yX12_mean cX12_mean 3 (some .long) 104 6069 [.ref v0, .int v1, .int v2] z h h' (some (.long r)) := by
  refine Ct.of G (by decide) (Nat.le_of_ble_eq_true rfl) ?_
  intro p e s m below meth c ls B hw hz hc0 hr hlk hl
  have B : Bd p s0 s E m c cX12_mean 3 RX12 := B
  have hx := B.1
  have hb := B.2.1
  have hl : lv_has ls 3 [(0, .ref v0), (1, .int v1), (2, .int v2)] := hl
  unfold f_X12_mean at hf
  obtain ⟨_, hf⟩ := if_some hf
  refine lv_aload_n hx hb dX12_mean_0 rfl (lv_at hl 0 rfl) ?_
  refine lv_iconst (v := 0) hx hb dX12_mean_1 (by decide) ?_
  obtain ⟨h1, e, hf⟩ := ob hf
  refine q_putI e B hw fd_12_0.1 fd_12_0.2.1 fd_12_0.2.2.1 fd_12_0.2.2.2.1 fd_12_0.2.2.2.2 rfl rfl (tyX12_ok 0 (by decide)) tyX12 tyX12_ok nmX12 tw_6_43 dX12_mean_2 (fun H locs hw => ?_)
  refine lv_aload_n hx hb dX12_mean_5 rfl (lv_at hl 0 rfl) ?_
  refine lv_iload_n hx hb dX12_mean_6 rfl (lv_at hl 1 rfl) ?_
  refine lv_i2l (v := (Int32.toInt64 v1)) hx hb dX12_mean_7 rfl ?_
  obtain ⟨x2, e, hf⟩ := ob hf
  refine q_callV (As := [.long (Int32.toInt64 v1)]) (rest := []) (st1 := [.int x2]) (c_X12_isPerson G e) B hw hz hc0 (k_X12_isPerson e) (by decide) (ci := 12) rfl rfl my_X12_isPerson mv_X12_isPerson tw_7_35 ⟨Nat.le_of_ble_eq_true rfl, Nat.le_of_ble_eq_true rfl⟩ ⟨Nat.zero_le _, Nat.zero_le _⟩ rfl hl.1 rfl rfl (Nat.le_of_ble_eq_true rfl) dX12_mean_8 (fun H locs hw => ?_)
  refine lv_if_eq (tgt := 24) hx hb dX12_mean_11 (by decide) (fun c3 => ?_) (fun c3 => ?_)
  · have hf := (if_pos c3).symm.trans hf
    refine lv_ldc2 hx hb B.2.2.2.1 (B.w tw_8_29 rfl) dX12_mean_24 ?_
    obtain ⟨rfl, rfl⟩ := so2 hf
    exact q_lret B hw hz hc0 hr hlk dX12_mean_27
  · have hf := (if_neg c3).symm.trans hf
    refine lv_iload_n hx hb dX12_mean_14 rfl (lv_at hl 2 rfl) ?_
    refine lv_i2l (v := (Int32.toInt64 v2)) hx hb dX12_mean_15 rfl ?_
    refine lv_lconst (v := 0) hx hb dX12_mean_16 (by decide) ?_
    refine lv_lconst (v := 1) hx hb dX12_mean_17 (by decide) ?_
    obtain ⟨x4, e, hf⟩ := ob hf
    refine q_callS (As := [.long (Int32.toInt64 v2), .long 0, .long 1]) (rest := []) (st1 := [.int x4]) (c_X12_within G e) B hw hz hc0 my_X12_within mv_X12_within tw_6_162 ⟨Nat.le_of_ble_eq_true rfl, Nat.le_of_ble_eq_true rfl⟩ ⟨Nat.zero_le _, Nat.zero_le _⟩ rfl hl.1 rfl rfl (Nat.le_of_ble_eq_true rfl) dX12_mean_18 (fun H locs hw => ?_)
    refine lv_if_ne (tgt := 28) hx hb dX12_mean_21 (by decide) (fun c5 => ?_) (fun c5 => ?_)
    · have hf := (if_neg c5).symm.trans hf
      refine lv_aload_n hx hb dX12_mean_28 rfl (lv_at hl 0 rfl) ?_
      refine lv_iload_n hx hb dX12_mean_29 rfl (lv_at hl 1 rfl) ?_
      obtain ⟨h6, e, hf⟩ := ob hf
      refine q_callV (As := [.int v1]) (rest := []) (st1 := []) (c_X12_begins G e) B hw hz hc0 (k_X12_begins e) (by decide) (ci := 12) rfl rfl my_X12_begins mv_X12_begins tw_7_233 ⟨Nat.le_of_ble_eq_true rfl, Nat.le_of_ble_eq_true rfl⟩ ⟨Nat.zero_le _, Nat.zero_le _⟩ rfl hl.1 rfl rfl (Nat.le_of_ble_eq_true rfl) dX12_mean_30 (fun H locs hw => ?_)
      refine lv_aload_n hx hb dX12_mean_33 rfl (lv_at hl 0 rfl) ?_
      refine lv_aload_n hx hb dX12_mean_34 rfl (lv_at hl 0 rfl) ?_
      refine lv_iload_n hx hb dX12_mean_35 rfl (lv_at hl 1 rfl) ?_
      obtain ⟨x7, e, hf⟩ := ob hf
      refine q_callV (As := [.int v1]) (rest := [.ref v0]) (st1 := [.int x7, .ref v0]) (c_X12_standNow G e) B hw hz hc0 (k_X12_standNow e) (by decide) (ci := 12) rfl rfl my_X12_standNow mv_X12_standNow tw_7_48 ⟨Nat.le_of_ble_eq_true rfl, Nat.le_of_ble_eq_true rfl⟩ ⟨Nat.zero_le _, Nat.zero_le _⟩ rfl hl.1 rfl rfl (Nat.le_of_ble_eq_true rfl) dX12_mean_36 (fun H locs hw => ?_)
      obtain ⟨⟨x8, h9⟩, e, hf⟩ := ob hf
      refine q_callV (As := [.int x7]) (rest := []) (st1 := [.long x8]) (c_X12_meanFrom G e) B hw hz hc0 (k_X12_meanFrom e) (by decide) (ci := 12) rfl rfl my_X12_meanFrom mv_X12_meanFrom tw_8_51 ⟨Nat.le_of_ble_eq_true rfl, Nat.le_of_ble_eq_true rfl⟩ ⟨Nat.zero_le _, Nat.zero_le _⟩ rfl hl.1 rfl rfl (Nat.le_of_ble_eq_true rfl) dX12_mean_39 (fun H locs hw => ?_)
      refine lv_iload_n hx hb dX12_mean_42 rfl (lv_at hl 2 rfl) ?_
      obtain ⟨x10, e, hf⟩ := ob hf
      refine q_callS (As := [.long x8, .int v2]) (rest := []) (st1 := [.long x10]) (c_X12_part G e) B hw hz hc0 my_X12_part mv_X12_part tw_8_64 ⟨Nat.le_of_ble_eq_true rfl, Nat.le_of_ble_eq_true rfl⟩ ⟨Nat.zero_le _, Nat.zero_le _⟩ rfl hl.1 rfl rfl (Nat.le_of_ble_eq_true rfl) dX12_mean_43 (fun H locs hw => ?_)
      obtain ⟨rfl, rfl⟩ := so2 hf
      exact q_lret B hw hz hc0 hr hlk dX12_mean_46
    · have hf := (if_pos c5).symm.trans hf
      refine lv_ldc2 hx hb B.2.2.2.1 (B.w tw_8_29 rfl) dX12_mean_24 ?_
      obtain ⟨rfl, rfl⟩ := so2 hf
      exact q_lret B hw hz hc0 hr hlk dX12_mean_27
