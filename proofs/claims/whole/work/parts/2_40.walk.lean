/-! SecondLife.hoping(II)I -/
def f_X11_hoping_26 (n : Nat)  (z : Sh) (h : Hp) : Option (Int32 × Hp × Sh) :=
  (f_X11_refused z h 3).bind fun x1 =>
  some (x1, h, z)
def f_X11_hoping (n : Nat) (z : Sh) (h : Hp) (v0 : Nat) (v1 : Int32) (v2 : Int32) : Option (Int32 × Hp × Sh) :=
  if z.K v0 = 11 then
    gd3 z <|
    (gR z h 11 v0 4).bind fun a1 =>
    (f_X5_has z h a1 v1).bind fun x2 =>
    if x2 = 0 then
      (f_X11_refused z h 2).bind fun x14 =>
      some (x14, h, z)
    else
      if v2 < 0 then
        f_X11_hoping_26 n z h
      else
        if v2 ≤ 60 then
          (gR z h 11 v0 12).bind fun a6 =>
          (gR z h 11 v0 3).bind fun a7 =>
          (gR z h 11 v0 4).bind fun a8 =>
          (f_X10_about n z h a6 a7 a8 v1).bind fun h9 =>
          (gR z h9 11 v0 14).bind fun a10 =>
          (f_X0_hopeDoing n z h9 a10 v2).bind fun (x11, h12, z13) =>
          gd3 z13 <|
          some (x11, h12, z13)
        else
          f_X11_hoping_26 n z h
  else none
theorem k_X11_hoping {n : Nat} {z : Sh} {h : Hp} {v0 : Nat} {v1 : Int32} {v2 : Int32} {w : Int32 × Hp × Sh} (hf : f_X11_hoping n z h v0 v1 v2 = some w) : z.K v0 = 11 := by
  unfold f_X11_hoping at hf
  exact (if_some hf).1
theorem mo_X11_hoping {n : Nat} {z : Sh} {h : Hp} {v0 : Nat} {v1 : Int32} {v2 : Int32} {r : Int32} {h' : Hp} {zE : Sh} (hf : f_X11_hoping n z h v0 v1 v2 = some (r, h', zE)) : z.sz ≤ zE.sz ∧ z.sl ≤ zE.sl := by
  unfold f_X11_hoping at hf
  exact (gd3_some (if_some hf).2).1
set_option maxHeartbeats 4000000 in
theorem w_X11_hoping_26 {p : Program} {l : Launch} {e : Env} {s : State} {m : MethodId} {args : Array Value} {below : List Frame} {meth : Method} {c : Code} {s0 : State} {E : Ev} {z0 : Sh} {n : Nat} {r : Int32} {h' : Hp} {zE : Sh} (G : Gl s0 E) (B : Bd p s0 s E m c cX11_hoping 3 RX11) (hr : meth.sig.returnType = (some .int)) (hlk : meth.locks = false) : ∀ (z : Sh) (h : Hp) (H : Heap) (locs : List Loc) (ls : Array Slot), Pw s0 s E z h H locs → Mo s0 s z0 z zE → lv_has ls 3 [] → f_X11_hoping_26 n z h = some (r, h', zE) → W p l e (rmA 68 3774 z0 zE) s m args below meth c H locs (z.sz - z0.sz) (z.sl - z0.sl) (Zt below s0 E zE h' (some (.int r)) args s (zE.sz - z0.sz) (zE.sl - z0.sl)) (F0 m 26 ls []) := by
  have hx := B.1
  have hb := B.2.1
  intro z h H locs ls hw hM hl hf
  unfold f_X11_hoping_26 at hf
  refine lv_iconst (v := 3) hx hb dX11_hoping_26 (by decide) ?_
  obtain ⟨x1, e, hf⟩ := ob hf
  refine q_callS (As := [.int 3]) (rest := []) (st1 := [.int x1]) (c_X11_refused G e) B hw hM.hz hM.hc0 my_X11_refused mv_X11_refused tw_2_155 ⟨Nat.le_of_ble_eq_true rfl, Nat.le_of_ble_eq_true rfl⟩ hM.hcs rfl hl.1 rfl rfl (Nat.le_of_ble_eq_true rfl) dX11_hoping_27 (fun H locs hw => ?_)
  obtain ⟨rfl, rfl, rfl⟩ := so3 hf
  exact q_iret B hw hM.hz hM.hc0 hr hlk dX11_hoping_30
set_option maxHeartbeats 4000000 in
theorem c_X11_hoping {l : Launch} {s0 : State} {E : Ev} (G : Gl s0 E) {n : Nat} {z : Sh} {h : Hp} {v0 : Nat} {v1 : Int32} {v2 : Int32} {r : Int32} {h' : Hp} {zE : Sh} (hf : f_X11_hoping n z h v0 v1 v2 = some (r, h', zE)) : Ca l s0 E yX11_hoping cX11_hoping 3 (some .int) 68 3774 [.ref v0, .int v1, .int v2] z zE h h' (some (.int r)) := by
  refine Ca.of G (by decide +kernel) (Nat.le_of_ble_eq_true rfl) (mo_X11_hoping hf) ?_
  intro p e s m below meth c ls B hw hM hr hlk hnm0 hl
  have B : Bd p s0 s E m c cX11_hoping 3 RX11 := B
  have hx := B.1
  have hb := B.2.1
  have hl : lv_has ls 3 [(0, .ref v0), (1, .int v1), (2, .int v2)] := hl
  unfold f_X11_hoping at hf
  obtain ⟨_, hf⟩ := if_some hf
  obtain ⟨_, hf⟩ := gd3_some hf
  refine lv_aload_n hx hb dX11_hoping_0 rfl (lv_at hl 0 rfl) ?_
  obtain ⟨a1, e, hf⟩ := ob hf
  refine q_getR e B hw fd_11_4.1 fd_11_4.2.1 fd_11_4.2.2.1 fd_11_4.2.2.2.1 fd_11_4.2.2.2.2 rfl tw_2_106 dX11_hoping_1 ?_
  refine lv_iload_n hx hb dX11_hoping_4 rfl (lv_at hl 1 rfl) ?_
  obtain ⟨x2, e, hf⟩ := ob hf
  refine q_callVN (As := [.int v1]) (rest := []) (st1 := [.int x2]) (c_X5_has G e) B hw hM.hz hM.hc0 (k_X5_has e) (by decide) (ci := 5) rfl rfl my_X5_has mv_X5_has tw_3_210 ⟨Nat.le_of_ble_eq_true rfl, Nat.le_of_ble_eq_true rfl⟩ hM.hcs rfl hl.1 rfl rfl (Nat.le_of_ble_eq_true rfl) dX11_hoping_5 (fun H locs hw => ?_)
  refine lv_if_ne (tgt := 16) hx hb dX11_hoping_8 (by decide) (fun c3 => ?_) (fun c3 => ?_)
  · have hf := (if_neg c3).symm.trans hf
    refine lv_iload_n hx hb dX11_hoping_16 rfl (lv_at hl 2 rfl) ?_
    refine lv_if_lt (tgt := 26) hx hb dX11_hoping_17 (by decide) (fun c4 => ?_) (fun c4 => ?_)
    · have hf := (if_pos c4).symm.trans hf
      exact w_X11_hoping_26 G B hr hlk  z h _ _ _ hw hM (lv_sub hl [] rfl) hf
    · have hf := (if_neg c4).symm.trans hf
      refine lv_iload_n hx hb dX11_hoping_20 rfl (lv_at hl 2 rfl) ?_
      refine lv_bipush (v := 60) hx hb dX11_hoping_21 (by decide) ?_
      refine lv_icmp_le (tgt := 31) hx hb dX11_hoping_23 (by decide) (fun c5 => ?_) (fun c5 => ?_)
      · have hf := (if_pos c5).symm.trans hf
        refine lv_aload_n hx hb dX11_hoping_31 rfl (lv_at hl 0 rfl) ?_
        obtain ⟨a6, e, hf⟩ := ob hf
        refine q_getR e B hw fd_11_12.1 fd_11_12.2.1 fd_11_12.2.2.1 fd_11_12.2.2.2.1 fd_11_12.2.2.2.2 rfl tw_2_114 dX11_hoping_32 ?_
        refine lv_aload_n hx hb dX11_hoping_35 rfl (lv_at hl 0 rfl) ?_
        obtain ⟨a7, e, hf⟩ := ob hf
        refine q_getR e B hw fd_11_3.1 fd_11_3.2.1 fd_11_3.2.2.1 fd_11_3.2.2.2.1 fd_11_3.2.2.2.2 rfl tw_2_105 dX11_hoping_36 ?_
        refine lv_aload_n hx hb dX11_hoping_39 rfl (lv_at hl 0 rfl) ?_
        obtain ⟨a8, e, hf⟩ := ob hf
        refine q_getR e B hw fd_11_4.1 fd_11_4.2.1 fd_11_4.2.2.1 fd_11_4.2.2.2.1 fd_11_4.2.2.2.2 rfl tw_2_106 dX11_hoping_40 ?_
        refine lv_iload_n hx hb dX11_hoping_43 rfl (lv_at hl 1 rfl) ?_
        obtain ⟨h9, e, hf⟩ := ob hf
        refine q_callVN (As := [.ref a7, .ref a8, .int v1]) (rest := []) (st1 := []) (c_X10_about G e) B hw hM.hz hM.hc0 (k_X10_about e) (by decide) (ci := 10) rfl rfl my_X10_about mv_X10_about tw_4_153 ⟨Nat.le_of_ble_eq_true rfl, Nat.le_of_ble_eq_true rfl⟩ hM.hcs rfl hl.1 rfl rfl (Nat.le_of_ble_eq_true rfl) dX11_hoping_44 (fun H locs hw => ?_)
        refine lv_aload_n hx hb dX11_hoping_47 rfl (lv_at hl 0 rfl) ?_
        obtain ⟨a10, e, hf⟩ := ob hf
        refine q_getR e B hw fd_11_14.1 fd_11_14.2.1 fd_11_14.2.2.1 fd_11_14.2.2.2.1 fd_11_14.2.2.2.2 rfl tw_2_116 dX11_hoping_48 ?_
        refine lv_iload_n hx hb dX11_hoping_51 rfl (lv_at hl 2 rfl) ?_
        obtain ⟨⟨x11, h12, z13⟩, e, hf⟩ := ob hf
        obtain ⟨hg, hf⟩ := gd3_some hf
        refine q_callVNA (As := [.int v2]) (rest := []) (st1 := [.int x11]) (c_X0_hopeDoing G e) (mo_X0_hopeDoing e) hg B hw hM (k_X0_hopeDoing e) (by decide) (ci := 0) rfl rfl my_X0_hopeDoing mv_X0_hopeDoing tw_5_141 ⟨Nat.le_of_ble_eq_true rfl, Nat.le_of_ble_eq_true rfl⟩ rfl hl.1 rfl rfl (Nat.le_of_ble_eq_true rfl) dX11_hoping_52 (fun H locs hw hM => ?_)
        obtain ⟨rfl, rfl, rfl⟩ := so3 hf
        exact q_iret B hw hM.hz hM.hc0 hr hlk dX11_hoping_55
      · have hf := (if_neg c5).symm.trans hf
        exact w_X11_hoping_26 G B hr hlk  z h _ _ _ hw hM (lv_sub hl [] rfl) hf
  · have hf := (if_pos c3).symm.trans hf
    refine lv_iconst (v := 2) hx hb dX11_hoping_11 (by decide) ?_
    obtain ⟨x14, e, hf⟩ := ob hf
    refine q_callS (As := [.int 2]) (rest := []) (st1 := [.int x14]) (c_X11_refused G e) B hw hM.hz hM.hc0 my_X11_refused mv_X11_refused tw_2_155 ⟨Nat.le_of_ble_eq_true rfl, Nat.le_of_ble_eq_true rfl⟩ hM.hcs rfl hl.1 rfl rfl (Nat.le_of_ble_eq_true rfl) dX11_hoping_12 (fun H locs hw => ?_)
    obtain ⟨rfl, rfl, rfl⟩ := so3 hf
    exact q_iret B hw hM.hz hM.hc0 hr hlk dX11_hoping_15
/-! SecondLife.talents(III)I -/
def f_X11_talents (n : Nat) (z : Sh) (h : Hp) (v0 : Nat) (v1 : Int32) (v2 : Int32) (v3 : Int32) : Option (Int32 × Hp) :=
  if z.K v0 = 11 then
    (f_X11_livedFault n z h v0 v1 v2).bind fun x1 =>
    if x1 = 0 then
      (f_X11_trayAt z h v0 v1).bind fun o3 =>
      (match o3 with
      | none =>
        none
      | some a4 =>
        (f_X11_fittingTalents n z h v0 a4 v2 v3).bind fun (x5, h6) =>
        some (x5, h6))
    else
      (f_X11_refused z h x1).bind fun x7 =>
      some (x7, h)
  else none
theorem k_X11_talents {n : Nat} {z : Sh} {h : Hp} {v0 : Nat} {v1 : Int32} {v2 : Int32} {v3 : Int32} {w : Int32 × Hp} (hf : f_X11_talents n z h v0 v1 v2 v3 = some w) : z.K v0 = 11 := by
  unfold f_X11_talents at hf
  exact (if_some hf).1
set_option maxHeartbeats 4000000 in
theorem c_X11_talents {l : Launch} {s0 : State} {E : Ev} (G : Gl s0 E) {n : Nat} {z : Sh} {h : Hp} {v0 : Nat} {v1 : Int32} {v2 : Int32} {v3 : Int32} {r : Int32} {h' : Hp} (hf : f_X11_talents n z h v0 v1 v2 v3 = some (r, h')) : Ct l s0 E yX11_talents cX11_talents 5 (some .int) 5 125 [.ref v0, .int v1, .int v2, .int v3] z h h' (some (.int r)) := by
  refine Ct.of G (by decide) (Nat.le_of_ble_eq_true rfl) ?_
  intro p e s m below meth c ls B hw hz hc0 hr hlk hl
  have B : Bd p s0 s E m c cX11_talents 5 RX11 := B
  have hx := B.1
  have hb := B.2.1
  have hl : lv_has ls 5 [(0, .ref v0), (1, .int v1), (2, .int v2), (3, .int v3)] := hl
  unfold f_X11_talents at hf
  obtain ⟨_, hf⟩ := if_some hf
  refine lv_aload_n hx hb dX11_talents_0 rfl (lv_at hl 0 rfl) ?_
  refine lv_iload_n hx hb dX11_talents_1 rfl (lv_at hl 1 rfl) ?_
  refine lv_iload_n hx hb dX11_talents_2 rfl (lv_at hl 2 rfl) ?_
  obtain ⟨x1, e, hf⟩ := ob hf
  refine q_callV (As := [.int v1, .int v2]) (rest := []) (st1 := [.int x1]) (c_X11_livedFault G e) B hw hz hc0 (k_X11_livedFault e) (by decide) (ci := 11) rfl rfl my_X11_livedFault mv_X11_livedFault tw_5_150 ⟨Nat.le_of_ble_eq_true rfl, Nat.le_of_ble_eq_true rfl⟩ ⟨Nat.zero_le _, Nat.zero_le _⟩ rfl hl.1 rfl rfl (Nat.le_of_ble_eq_true rfl) dX11_talents_3 (fun H locs hw => ?_)
  refine lv_istore (lv' := [(4, .int x1), (0, .ref v0), (1, .int v1), (2, .int v2), (3, .int v3)]) hx hb dX11_talents_6 hl (by decide) rfl (fun ls hl => ?_)
  refine lv_iload hx hb dX11_talents_8 (lv_at hl 0 rfl) ?_
  refine lv_if_eq (tgt := 21) hx hb dX11_talents_10 (by decide) (fun c2 => ?_) (fun c2 => ?_)
  · have hf := (if_pos c2).symm.trans hf
    refine lv_aload_n hx hb dX11_talents_21 rfl (lv_at hl 1 rfl) ?_
    refine lv_aload_n hx hb dX11_talents_22 rfl (lv_at hl 1 rfl) ?_
    refine lv_iload_n hx hb dX11_talents_23 rfl (lv_at hl 2 rfl) ?_
    obtain ⟨o3, e, hf⟩ := ob hf
    refine q_callV (As := [.int v1]) (rest := [.ref v0]) (st1 := [va_rf o3, .ref v0]) (c_X11_trayAt G e) B hw hz hc0 (k_X11_trayAt e) (by decide) (ci := 11) rfl rfl my_X11_trayAt mv_X11_trayAt tw_4_91 ⟨Nat.le_of_ble_eq_true rfl, Nat.le_of_ble_eq_true rfl⟩ ⟨Nat.zero_le _, Nat.zero_le _⟩ rfl hl.1 rfl rfl (Nat.le_of_ble_eq_true rfl) dX11_talents_24 (fun H locs hw => ?_)
    rcases o3 with _ | a4
    · cases hf
    · refine lv_iload_n hx hb dX11_talents_27 rfl (lv_at hl 3 rfl) ?_
      refine lv_iload_n hx hb dX11_talents_28 rfl (lv_at hl 4 rfl) ?_
      obtain ⟨⟨x5, h6⟩, e, hf⟩ := ob hf
      refine q_callV (As := [.ref a4, .int v2, .int v3]) (rest := []) (st1 := [.int x5]) (c_X11_fittingTalents G e) B hw hz hc0 (k_X11_fittingTalents e) (by decide) (ci := 11) rfl rfl my_X11_fittingTalents mv_X11_fittingTalents tw_5_155 ⟨Nat.le_of_ble_eq_true rfl, Nat.le_of_ble_eq_true rfl⟩ ⟨Nat.zero_le _, Nat.zero_le _⟩ rfl hl.1 rfl rfl (Nat.le_of_ble_eq_true rfl) dX11_talents_29 (fun H locs hw => ?_)
      obtain ⟨rfl, rfl⟩ := so2 hf
      exact q_iret B hw hz hc0 hr hlk dX11_talents_32
  · have hf := (if_neg c2).symm.trans hf
    refine lv_iload hx hb dX11_talents_13 (lv_at hl 0 rfl) ?_
    obtain ⟨x7, e, hf⟩ := ob hf
    refine q_callS (As := [.int x1]) (rest := []) (st1 := [.int x7]) (c_X11_refused G e) B hw hz hc0 my_X11_refused mv_X11_refused tw_2_155 ⟨Nat.le_of_ble_eq_true rfl, Nat.le_of_ble_eq_true rfl⟩ ⟨Nat.zero_le _, Nat.zero_le _⟩ rfl hl.1 rfl rfl (Nat.le_of_ble_eq_true rfl) dX11_talents_15 (fun H locs hw => ?_)
    refine lv_goto (tgt := 32) hx hb dX11_talents_18 (by decide) ?_
    obtain ⟨rfl, rfl⟩ := so2 hf
    exact q_iret B hw hz hc0 hr hlk dX11_talents_32
/-! SecondLife.attempt(III)I -/
def f_X11_attempt_85 (n : Nat) (z : Sh) (k42 : Hp → Nat → Int32 → Int32 → Int32 → Int32 → Int32 → Option (Int32 × Hp)) (h : Hp) (v0 : Nat) (v2 : Int32) (v5 : Int32) (v6 : Int32) (v7 : Int32) (v8 : Int32) : Option (Int32 × Hp) :=
  (some (v8 + 1)).bind fun x1 =>
  k42 h v0 v2 v5 v6 v7 x1
def f_X11_attempt_42 (n : Nat) (z : Sh) : Nat → Hp → Nat → Int32 → Int32 → Int32 → Int32 → Int32 → Option (Int32 × Hp)
  | 0, _, _, _, _, _, _, _ => none
  | i + 1, h, v0, v2, v5, v6, v7, v8 =>
    if v5 = 0 then
      some (v6, h)
    else
      (gR z h 11 v0 3).bind fun a2 =>
      (gI z h 8 a2 1).bind fun x3 =>
      if x3 ≤ v8 then
        some (v6, h)
      else
        (f_X11_mostAlike n z h v0 v2 v8 v5).bind fun (x5, h6) =>
        if v7 ≤ x5 then
          f_X11_attempt_85 n z (f_X11_attempt_42 n z i) h6 v0 v2 v5 v6 v7 v8
        else
          f_X11_attempt_85 n z (f_X11_attempt_42 n z i) h6 v0 v2 v5 v8 x5 v8
def f_X11_attempt (n : Nat) (z : Sh) (h : Hp) (v0 : Nat) (v1 : Int32) (v2 : Int32) (v3 : Int32) : Option (Int32 × Hp) :=
  if z.K v0 = 11 then
    (f_X11_livedFault n z h v0 v1 v2).bind fun x1 =>
    if x1 = 0 then
      (f_X11_trayAt z h v0 v1).bind fun o3 =>
      (match o3 with
      | none =>
        none
      | some a4 =>
        (f_X11_fittingTalents n z h v0 a4 v2 v3).bind fun (x5, h6) =>
        f_X11_attempt_42 n z n h6 v0 v2 x5 (-1) 11 0)
    else
      (f_X11_refused z h x1).bind fun x7 =>
      some (x7, h)
  else none
theorem k_X11_attempt {n : Nat} {z : Sh} {h : Hp} {v0 : Nat} {v1 : Int32} {v2 : Int32} {v3 : Int32} {w : Int32 × Hp} (hf : f_X11_attempt n z h v0 v1 v2 v3 = some w) : z.K v0 = 11 := by
  unfold f_X11_attempt at hf
  exact (if_some hf).1
set_option maxHeartbeats 4000000 in
theorem w_X11_attempt_85 {p : Program} {l : Launch} {e : Env} {s : State} {m : MethodId} {args : Array Value} {below : List Frame} {meth : Method} {c : Code} {s0 : State} {E : Ev} {z : Sh} {n : Nat} {k42 : Hp → Nat → Int32 → Int32 → Int32 → Int32 → Int32 → Option (Int32 × Hp)} {r : Int32} {h' : Hp} (G : Gl s0 E) (B : Bd p s0 s E m c cX11_attempt 10 RX11) (hz : s0.heap.size ≤ z.sz) (hc0 : s.heap.size + 0 = z.sz) (hr : meth.sig.returnType = (some .int)) (hlk : meth.locks = false) (hk42 : ∀ (h : Hp) (v0 : Nat) (v2 : Int32) (v5 : Int32) (v6 : Int32) (v7 : Int32) (v8 : Int32) (H : Heap) (locs : List Loc) (ls : Array Slot), Pw s0 s E z h H locs → lv_has ls 10 [(0, .ref v0), (2, .int v2), (5, .int v5), (6, .int v6), (7, .int v7), (8, .int v8)] → k42 h v0 v2 v5 v6 v7 v8 = some (r, h') → W p l e (rmO 5 125) s m args below meth c H locs 0 0 (Zt below s0 E z h' (some (.int r)) args s 0 0) (F0 m 42 ls [])) : ∀ (h : Hp) (v0 : Nat) (v2 : Int32) (v5 : Int32) (v6 : Int32) (v7 : Int32) (v8 : Int32) (H : Heap) (locs : List Loc) (ls : Array Slot), Pw s0 s E z h H locs → lv_has ls 10 [(0, .ref v0), (2, .int v2), (5, .int v5), (6, .int v6), (7, .int v7), (8, .int v8)] → f_X11_attempt_85 n z k42 h v0 v2 v5 v6 v7 v8 = some (r, h') → W p l e (rmO 5 125) s m args below meth c H locs 0 0 (Zt below s0 E z h' (some (.int r)) args s 0 0) (F0 m 85 ls []) := by
  have hx := B.1
  have hb := B.2.1
  intro h v0 v2 v5 v6 v7 v8 H locs ls hw hl hf
  unfold f_X11_attempt_85 at hf
  obtain ⟨x1, e, hf⟩ := ob hf
  refine lv_iinc (v := x1) (lv' := [(8, .int x1), (0, .ref v0), (2, .int v2), (5, .int v5), (6, .int v6), (7, .int v7)]) hx hb dX11_attempt_85 hl (k := 5) rfl (Option.some.inj e) (by decide) rfl (fun ls hl => ?_)
  refine lv_goto (tgt := 42) hx hb dX11_attempt_88 (by decide) ?_
  exact hk42 h v0 v2 v5 v6 v7 x1 _ _ _ hw (lv_sub hl [1, 2, 3, 4, 5, 0] rfl) hf
set_option maxHeartbeats 4000000 in
theorem w_X11_attempt_42 {p : Program} {l : Launch} {e : Env} {s : State} {m : MethodId} {args : Array Value} {below : List Frame} {meth : Method} {c : Code} {s0 : State} {E : Ev} {z : Sh} {n : Nat} {r : Int32} {h' : Hp} (G : Gl s0 E) (B : Bd p s0 s E m c cX11_attempt 10 RX11) (hz : s0.heap.size ≤ z.sz) (hc0 : s.heap.size + 0 = z.sz) (hr : meth.sig.returnType = (some .int)) (hlk : meth.locks = false) : ∀ (i : Nat), ∀ (h : Hp) (v0 : Nat) (v2 : Int32) (v5 : Int32) (v6 : Int32) (v7 : Int32) (v8 : Int32) (H : Heap) (locs : List Loc) (ls : Array Slot), Pw s0 s E z h H locs → lv_has ls 10 [(0, .ref v0), (2, .int v2), (5, .int v5), (6, .int v6), (7, .int v7), (8, .int v8)] → f_X11_attempt_42 n z i h v0 v2 v5 v6 v7 v8 = some (r, h') → W p l e (rmO 5 125) s m args below meth c H locs 0 0 (Zt below s0 E z h' (some (.int r)) args s 0 0) (F0 m 42 ls []) := by
  have hx := B.1
  have hb := B.2.1
  intro i
  induction i with
  | zero =>
    intro h v0 v2 v5 v6 v7 v8 H locs ls hw hl hf
    have hf := (f_X11_attempt_42.eq_1 ..).symm.trans hf
    cases hf
  | succ i ih =>
    intro h v0 v2 v5 v6 v7 v8 H locs ls hw hl hf
    have hf := (f_X11_attempt_42.eq_2 ..).symm.trans hf
    refine lv_iload hx hb dX11_attempt_42 (lv_at hl 2 rfl) ?_
    refine lv_if_eq (tgt := 91) hx hb dX11_attempt_44 (by decide) (fun c1 => ?_) (fun c1 => ?_)
    · have hf := (if_pos c1).symm.trans hf
      refine lv_iload hx hb dX11_attempt_91 (lv_at hl 3 rfl) ?_
      obtain ⟨rfl, rfl⟩ := so2 hf
      exact q_iret B hw hz hc0 hr hlk dX11_attempt_93
    · have hf := (if_neg c1).symm.trans hf
      refine lv_iload hx hb dX11_attempt_47 (lv_at hl 5 rfl) ?_
      refine lv_aload_n hx hb dX11_attempt_49 rfl (lv_at hl 0 rfl) ?_
      obtain ⟨a2, e, hf⟩ := ob hf
      refine q_getR e B hw fd_11_3.1 fd_11_3.2.1 fd_11_3.2.2.1 fd_11_3.2.2.2.1 fd_11_3.2.2.2.2 rfl tw_2_105 dX11_attempt_50 ?_
      obtain ⟨x3, e, hf⟩ := ob hf
      refine q_getIN e B hw fd_8_1.1 fd_8_1.2.1 fd_8_1.2.2.1 fd_8_1.2.2.2.1 fd_8_1.2.2.2.2 rfl tw_1_59 dX11_attempt_53 ?_
      refine lv_icmp_ge (tgt := 91) hx hb dX11_attempt_56 (by decide) (fun c4 => ?_) (fun c4 => ?_)
      · have hf := (if_pos c4).symm.trans hf
        refine lv_iload hx hb dX11_attempt_91 (lv_at hl 3 rfl) ?_
        obtain ⟨rfl, rfl⟩ := so2 hf
        exact q_iret B hw hz hc0 hr hlk dX11_attempt_93
      · have hf := (if_neg c4).symm.trans hf
        refine lv_aload_n hx hb dX11_attempt_59 rfl (lv_at hl 0 rfl) ?_
        refine lv_iload_n hx hb dX11_attempt_60 rfl (lv_at hl 1 rfl) ?_
        refine lv_iload hx hb dX11_attempt_61 (lv_at hl 5 rfl) ?_
        refine lv_iload hx hb dX11_attempt_63 (lv_at hl 2 rfl) ?_
        obtain ⟨⟨x5, h6⟩, e, hf⟩ := ob hf
        refine q_callV (As := [.int v2, .int v8, .int v5]) (rest := []) (st1 := [.int x5]) (c_X11_mostAlike G e) B hw hz hc0 (k_X11_mostAlike e) (by decide) (ci := 11) rfl rfl my_X11_mostAlike mv_X11_mostAlike tw_5_163 ⟨Nat.le_of_ble_eq_true rfl, Nat.le_of_ble_eq_true rfl⟩ ⟨Nat.zero_le _, Nat.zero_le _⟩ rfl hl.1 rfl rfl (Nat.le_of_ble_eq_true rfl) dX11_attempt_65 (fun H locs hw => ?_)
        refine lv_istore (lv' := [(9, .int x5), (0, .ref v0), (2, .int v2), (5, .int v5), (6, .int v6), (7, .int v7), (8, .int v8)]) hx hb dX11_attempt_68 hl (by decide) rfl (fun ls hl => ?_)
        refine lv_iload hx hb dX11_attempt_70 (lv_at hl 0 rfl) ?_
        refine lv_iload hx hb dX11_attempt_72 (lv_at hl 5 rfl) ?_
        refine lv_icmp_ge (tgt := 85) hx hb dX11_attempt_74 (by decide) (fun c7 => ?_) (fun c7 => ?_)
        · have hf := (if_pos c7).symm.trans hf
          exact w_X11_attempt_85 G B hz hc0 hr hlk ih h6 v0 v2 v5 v6 v7 v8 _ _ _ hw (lv_sub hl [1, 2, 3, 4, 5, 6] rfl) hf
        · have hf := (if_neg c7).symm.trans hf
          refine lv_iload hx hb dX11_attempt_77 (lv_at hl 0 rfl) ?_
          refine lv_istore (lv' := [(7, .int x5), (9, .int x5), (0, .ref v0), (2, .int v2), (5, .int v5), (6, .int v6), (8, .int v8)]) hx hb dX11_attempt_79 hl (by decide) rfl (fun ls hl => ?_)
          refine lv_iload hx hb dX11_attempt_81 (lv_at hl 6 rfl) ?_
          refine lv_istore (lv' := [(6, .int v8), (7, .int x5), (9, .int x5), (0, .ref v0), (2, .int v2), (5, .int v5), (8, .int v8)]) hx hb dX11_attempt_83 hl (by decide) rfl (fun ls hl => ?_)
          exact w_X11_attempt_85 G B hz hc0 hr hlk ih h6 v0 v2 v5 v8 x5 v8 _ _ _ hw (lv_sub hl [3, 4, 5, 0, 1, 6] rfl) hf
set_option maxHeartbeats 4000000 in
theorem c_X11_attempt {l : Launch} {s0 : State} {E : Ev} (G : Gl s0 E) {n : Nat} {z : Sh} {h : Hp} {v0 : Nat} {v1 : Int32} {v2 : Int32} {v3 : Int32} {r : Int32} {h' : Hp} (hf : f_X11_attempt n z h v0 v1 v2 v3 = some (r, h')) : Ct l s0 E yX11_attempt cX11_attempt 10 (some .int) 5 125 [.ref v0, .int v1, .int v2, .int v3] z h h' (some (.int r)) := by
  refine Ct.of G (by decide) (Nat.le_of_ble_eq_true rfl) ?_
  intro p e s m below meth c ls B hw hz hc0 hr hlk hl
  have B : Bd p s0 s E m c cX11_attempt 10 RX11 := B
  have hx := B.1
  have hb := B.2.1
  have hl : lv_has ls 10 [(0, .ref v0), (1, .int v1), (2, .int v2), (3, .int v3)] := hl
  unfold f_X11_attempt at hf
  obtain ⟨_, hf⟩ := if_some hf
  refine lv_aload_n hx hb dX11_attempt_0 rfl (lv_at hl 0 rfl) ?_
  refine lv_iload_n hx hb dX11_attempt_1 rfl (lv_at hl 1 rfl) ?_
  refine lv_iload_n hx hb dX11_attempt_2 rfl (lv_at hl 2 rfl) ?_
  obtain ⟨x1, e, hf⟩ := ob hf
  refine q_callV (As := [.int v1, .int v2]) (rest := []) (st1 := [.int x1]) (c_X11_livedFault G e) B hw hz hc0 (k_X11_livedFault e) (by decide) (ci := 11) rfl rfl my_X11_livedFault mv_X11_livedFault tw_5_150 ⟨Nat.le_of_ble_eq_true rfl, Nat.le_of_ble_eq_true rfl⟩ ⟨Nat.zero_le _, Nat.zero_le _⟩ rfl hl.1 rfl rfl (Nat.le_of_ble_eq_true rfl) dX11_attempt_3 (fun H locs hw => ?_)
  refine lv_istore (lv' := [(4, .int x1), (0, .ref v0), (1, .int v1), (2, .int v2), (3, .int v3)]) hx hb dX11_attempt_6 hl (by decide) rfl (fun ls hl => ?_)
  refine lv_iload hx hb dX11_attempt_8 (lv_at hl 0 rfl) ?_
  refine lv_if_eq (tgt := 19) hx hb dX11_attempt_10 (by decide) (fun c2 => ?_) (fun c2 => ?_)
  · have hf := (if_pos c2).symm.trans hf
    refine lv_aload_n hx hb dX11_attempt_19 rfl (lv_at hl 1 rfl) ?_
    refine lv_aload_n hx hb dX11_attempt_20 rfl (lv_at hl 1 rfl) ?_
    refine lv_iload_n hx hb dX11_attempt_21 rfl (lv_at hl 2 rfl) ?_
    obtain ⟨o3, e, hf⟩ := ob hf
    refine q_callV (As := [.int v1]) (rest := [.ref v0]) (st1 := [va_rf o3, .ref v0]) (c_X11_trayAt G e) B hw hz hc0 (k_X11_trayAt e) (by decide) (ci := 11) rfl rfl my_X11_trayAt mv_X11_trayAt tw_4_91 ⟨Nat.le_of_ble_eq_true rfl, Nat.le_of_ble_eq_true rfl⟩ ⟨Nat.zero_le _, Nat.zero_le _⟩ rfl hl.1 rfl rfl (Nat.le_of_ble_eq_true rfl) dX11_attempt_22 (fun H locs hw => ?_)
    rcases o3 with _ | a4
    · cases hf
    · refine lv_iload_n hx hb dX11_attempt_25 rfl (lv_at hl 3 rfl) ?_
      refine lv_iload_n hx hb dX11_attempt_26 rfl (lv_at hl 4 rfl) ?_
      obtain ⟨⟨x5, h6⟩, e, hf⟩ := ob hf
      refine q_callV (As := [.ref a4, .int v2, .int v3]) (rest := []) (st1 := [.int x5]) (c_X11_fittingTalents G e) B hw hz hc0 (k_X11_fittingTalents e) (by decide) (ci := 11) rfl rfl my_X11_fittingTalents mv_X11_fittingTalents tw_5_155 ⟨Nat.le_of_ble_eq_true rfl, Nat.le_of_ble_eq_true rfl⟩ ⟨Nat.zero_le _, Nat.zero_le _⟩ rfl hl.1 rfl rfl (Nat.le_of_ble_eq_true rfl) dX11_attempt_27 (fun H locs hw => ?_)
      refine lv_istore (lv' := [(5, .int x5), (4, .int x1), (0, .ref v0), (1, .int v1), (2, .int v2), (3, .int v3)]) hx hb dX11_attempt_30 hl (by decide) rfl (fun ls hl => ?_)
      refine lv_iconst (v := (-1)) hx hb dX11_attempt_32 (by decide) ?_
      refine lv_istore (lv' := [(6, .int (-1)), (5, .int x5), (4, .int x1), (0, .ref v0), (1, .int v1), (2, .int v2), (3, .int v3)]) hx hb dX11_attempt_33 hl (by decide) rfl (fun ls hl => ?_)
      refine lv_bipush (v := 11) hx hb dX11_attempt_35 (by decide) ?_
      refine lv_istore (lv' := [(7, .int 11), (6, .int (-1)), (5, .int x5), (4, .int x1), (0, .ref v0), (1, .int v1), (2, .int v2), (3, .int v3)]) hx hb dX11_attempt_37 hl (by decide) rfl (fun ls hl => ?_)
      refine lv_iconst (v := 0) hx hb dX11_attempt_39 (by decide) ?_
      refine lv_istore (lv' := [(8, .int 0), (7, .int 11), (6, .int (-1)), (5, .int x5), (4, .int x1), (0, .ref v0), (1, .int v1), (2, .int v2), (3, .int v3)]) hx hb dX11_attempt_40 hl (by decide) rfl (fun ls hl => ?_)
      exact w_X11_attempt_42 G B hz hc0 hr hlk  n h6 v0 v2 x5 (-1) 11 0 _ _ _ hw (lv_sub hl [5, 7, 3, 2, 1, 0] rfl) hf
  · have hf := (if_neg c2).symm.trans hf
    refine lv_iload hx hb dX11_attempt_13 (lv_at hl 0 rfl) ?_
    obtain ⟨x7, e, hf⟩ := ob hf
    refine q_callS (As := [.int x1]) (rest := []) (st1 := [.int x7]) (c_X11_refused G e) B hw hz hc0 my_X11_refused mv_X11_refused tw_2_155 ⟨Nat.le_of_ble_eq_true rfl, Nat.le_of_ble_eq_true rfl⟩ ⟨Nat.zero_le _, Nat.zero_le _⟩ rfl hl.1 rfl rfl (Nat.le_of_ble_eq_true rfl) dX11_attempt_15 (fun H locs hw => ?_)
    obtain ⟨rfl, rfl⟩ := so2 hf
    exact q_iret B hw hz hc0 hr hlk dX11_attempt_18
/-! SecondLife$Reader.deeper(I)Z -/
def f_X6_deeper (n : Nat) (z : Sh) (h : Hp) (v0 : Nat) (v1 : Int32) : Option (Int32 × Hp) :=
  if z.K v0 = 6 then
    if v1 < 6 then
      (f_X6_next n z h v0).bind fun h2 =>
      some (1, h2)
    else
      (f_X6_wrong z h v0 4).bind fun (x3, h4) =>
      (bz x3).bind fun x5 =>
      some (x5, h4)
  else none
theorem k_X6_deeper {n : Nat} {z : Sh} {h : Hp} {v0 : Nat} {v1 : Int32} {w : Int32 × Hp} (hf : f_X6_deeper n z h v0 v1 = some w) : z.K v0 = 6 := by
  unfold f_X6_deeper at hf
  exact (if_some hf).1
set_option maxHeartbeats 4000000 in
theorem c_X6_deeper {l : Launch} {s0 : State} {E : Ev} (G : Gl s0 E) {n : Nat} {z : Sh} {h : Hp} {v0 : Nat} {v1 : Int32} {r : Int32} {h' : Hp} (hf : f_X6_deeper n z h v0 v1 = some (r, h')) : Ct l s0 E yX6_deeper cX6_deeper 2 (some .boolean) 5 112 [.ref v0, .int v1] z h h' (some (.int r)) := by
  refine Ct.of G (by decide) (Nat.le_of_ble_eq_true rfl) ?_
  intro p e s m below meth c ls B hw hz hc0 hr hlk hl
  have B : Bd p s0 s E m c cX6_deeper 2 RX6 := B
  have hx := B.1
  have hb := B.2.1
  have hl : lv_has ls 2 [(0, .ref v0), (1, .int v1)] := hl
  unfold f_X6_deeper at hf
  obtain ⟨_, hf⟩ := if_some hf
  refine lv_iload_n hx hb dX6_deeper_0 rfl (lv_at hl 1 rfl) ?_
  refine lv_bipush (v := 6) hx hb dX6_deeper_1 (by decide) ?_
  refine lv_icmp_lt (tgt := 12) hx hb dX6_deeper_3 (by decide) (fun c1 => ?_) (fun c1 => ?_)
  · have hf := (if_pos c1).symm.trans hf
    refine lv_aload_n hx hb dX6_deeper_12 rfl (lv_at hl 0 rfl) ?_
    obtain ⟨h2, e, hf⟩ := ob hf
    refine q_callV (As := []) (rest := []) (st1 := []) (c_X6_next G e) B hw hz hc0 (k_X6_next e) (by decide) (ci := 6) rfl rfl my_X6_next mv_X6_next tw_2_171 ⟨Nat.le_of_ble_eq_true rfl, Nat.le_of_ble_eq_true rfl⟩ ⟨Nat.zero_le _, Nat.zero_le _⟩ rfl hl.1 rfl rfl (Nat.le_of_ble_eq_true rfl) dX6_deeper_13 (fun H locs hw => ?_)
    refine lv_iconst (v := 1) hx hb dX6_deeper_16 (by decide) ?_
    obtain ⟨rfl, rfl⟩ := so2 hf
    exact q_zret (Or.inr rfl) B hw hz hc0 hr hlk dX6_deeper_17
  · have hf := (if_neg c1).symm.trans hf
    refine lv_aload_n hx hb dX6_deeper_6 rfl (lv_at hl 0 rfl) ?_
    refine lv_iconst (v := 4) hx hb dX6_deeper_7 (by decide) ?_
    obtain ⟨⟨x3, h4⟩, e, hf⟩ := ob hf
    refine q_callV (As := [.int 4]) (rest := []) (st1 := [.int x3]) (c_X6_wrong G e) B hw hz hc0 (k_X6_wrong e) (by decide) (ci := 6) rfl rfl my_X6_wrong mv_X6_wrong tw_3_67 ⟨Nat.le_of_ble_eq_true rfl, Nat.le_of_ble_eq_true rfl⟩ ⟨Nat.zero_le _, Nat.zero_le _⟩ rfl hl.1 rfl rfl (Nat.le_of_ble_eq_true rfl) dX6_deeper_8 (fun H locs hw => ?_)
    obtain ⟨x5, e, hf⟩ := ob hf
    obtain ⟨e1, e⟩ := if_some e
    cases e
    obtain ⟨rfl, rfl⟩ := so2 hf
    exact q_zret e1 B hw hz hc0 hr hlk dX6_deeper_11
/-! SecondLife$Reader.take(Ljava/lang/String;)Z -/
def f_X6_take (n : Nat) (z : Sh) (h : Hp) (v0 : Nat) (v1 : Nat) : Option (Int32 × Hp) :=
  if z.K v0 = 6 then
    (f_X6_is n z h v0 v1).bind fun x1 =>
    if x1 = 0 then
      (f_X6_wrong z h v0 2).bind fun (x4, h5) =>
      (bz x4).bind fun x6 =>
      some (x6, h5)
    else
      (f_X6_next n z h v0).bind fun h3 =>
      some (1, h3)
  else none
theorem k_X6_take {n : Nat} {z : Sh} {h : Hp} {v0 : Nat} {v1 : Nat} {w : Int32 × Hp} (hf : f_X6_take n z h v0 v1 = some w) : z.K v0 = 6 := by
  unfold f_X6_take at hf
  exact (if_some hf).1
set_option maxHeartbeats 4000000 in
theorem c_X6_take {l : Launch} {s0 : State} {E : Ev} (G : Gl s0 E) {n : Nat} {z : Sh} {h : Hp} {v0 : Nat} {v1 : Nat} {r : Int32} {h' : Hp} (hf : f_X6_take n z h v0 v1 = some (r, h')) : Ct l s0 E yX6_take cX6_take 2 (some .boolean) 5 112 [.ref v0, .ref v1] z h h' (some (.int r)) := by
  refine Ct.of G (by decide) (Nat.le_of_ble_eq_true rfl) ?_
  intro p e s m below meth c ls B hw hz hc0 hr hlk hl
  have B : Bd p s0 s E m c cX6_take 2 RX6 := B
  have hx := B.1
  have hb := B.2.1
  have hl : lv_has ls 2 [(0, .ref v0), (1, .ref v1)] := hl
  unfold f_X6_take at hf
  obtain ⟨_, hf⟩ := if_some hf
  refine lv_aload_n hx hb dX6_take_0 rfl (lv_at hl 0 rfl) ?_
  refine lv_aload_n hx hb dX6_take_1 rfl (lv_at hl 1 rfl) ?_
  obtain ⟨x1, e, hf⟩ := ob hf
  refine q_callV (As := [.ref v1]) (rest := []) (st1 := [.int x1]) (c_X6_is G e) B hw hz hc0 (k_X6_is e) (by decide) (ci := 6) rfl rfl my_X6_is mv_X6_is tw_3_42 ⟨Nat.le_of_ble_eq_true rfl, Nat.le_of_ble_eq_true rfl⟩ ⟨Nat.zero_le _, Nat.zero_le _⟩ rfl hl.1 rfl rfl (Nat.le_of_ble_eq_true rfl) dX6_take_2 (fun H locs hw => ?_)
  refine lv_if_ne (tgt := 14) hx hb dX6_take_5 (by decide) (fun c2 => ?_) (fun c2 => ?_)
  · have hf := (if_neg c2).symm.trans hf
    refine lv_aload_n hx hb dX6_take_14 rfl (lv_at hl 0 rfl) ?_
    obtain ⟨h3, e, hf⟩ := ob hf
    refine q_callV (As := []) (rest := []) (st1 := []) (c_X6_next G e) B hw hz hc0 (k_X6_next e) (by decide) (ci := 6) rfl rfl my_X6_next mv_X6_next tw_2_171 ⟨Nat.le_of_ble_eq_true rfl, Nat.le_of_ble_eq_true rfl⟩ ⟨Nat.zero_le _, Nat.zero_le _⟩ rfl hl.1 rfl rfl (Nat.le_of_ble_eq_true rfl) dX6_take_15 (fun H locs hw => ?_)
    refine lv_iconst (v := 1) hx hb dX6_take_18 (by decide) ?_
    obtain ⟨rfl, rfl⟩ := so2 hf
    exact q_zret (Or.inr rfl) B hw hz hc0 hr hlk dX6_take_19
  · have hf := (if_pos c2).symm.trans hf
    refine lv_aload_n hx hb dX6_take_8 rfl (lv_at hl 0 rfl) ?_
    refine lv_iconst (v := 2) hx hb dX6_take_9 (by decide) ?_
    obtain ⟨⟨x4, h5⟩, e, hf⟩ := ob hf
    refine q_callV (As := [.int 2]) (rest := []) (st1 := [.int x4]) (c_X6_wrong G e) B hw hz hc0 (k_X6_wrong e) (by decide) (ci := 6) rfl rfl my_X6_wrong mv_X6_wrong tw_3_67 ⟨Nat.le_of_ble_eq_true rfl, Nat.le_of_ble_eq_true rfl⟩ ⟨Nat.zero_le _, Nat.zero_le _⟩ rfl hl.1 rfl rfl (Nat.le_of_ble_eq_true rfl) dX6_take_10 (fun H locs hw => ?_)
    obtain ⟨x6, e, hf⟩ := ob hf
    obtain ⟨e1, e⟩ := if_some e
    cases e
    obtain ⟨rfl, rfl⟩ := so2 hf
    exact q_zret e1 B hw hz hc0 hr hlk dX6_take_13
/-! SecondLife$Reader.takeNumber(II)I -/
def f_X6_takeNumber_31 (n : Nat) (z : Sh) (h : Hp) (v0 : Nat) : Option (Int32 × Hp) :=
  (f_X6_wrong z h v0 3).bind fun (x1, h2) =>
  some ((0 : Int32), h2)
def f_X6_takeNumber (n : Nat) (z : Sh) (h : Hp) (v0 : Nat) (v1 : Int32) (v2 : Int32) : Option (Int32 × Hp) :=
  if z.K v0 = 6 then
    (gI z h 6 v0 6).bind fun x1 =>
    if x1 = 1 then
      (gI z h 6 v0 7).bind fun x3 =>
      if x3 < v1 then
        f_X6_takeNumber_31 n z h v0
      else
        if x3 ≤ v2 then
          (f_X6_next n z h v0).bind fun h6 =>
          some (x3, h6)
        else
          f_X6_takeNumber_31 n z h v0
    else
      (f_X6_wrong z h v0 2).bind fun (x7, h8) =>
      some ((0 : Int32), h8)
  else none
theorem k_X6_takeNumber {n : Nat} {z : Sh} {h : Hp} {v0 : Nat} {v1 : Int32} {v2 : Int32} {w : Int32 × Hp} (hf : f_X6_takeNumber n z h v0 v1 v2 = some w) : z.K v0 = 6 := by
  unfold f_X6_takeNumber at hf
  exact (if_some hf).1
set_option maxHeartbeats 4000000 in
theorem w_X6_takeNumber_31 {p : Program} {l : Launch} {e : Env} {s : State} {m : MethodId} {args : Array Value} {below : List Frame} {meth : Method} {c : Code} {s0 : State} {E : Ev} {z : Sh} {n : Nat} {r : Int32} {h' : Hp} (G : Gl s0 E) (B : Bd p s0 s E m c cX6_takeNumber 4 RX6) (hz : s0.heap.size ≤ z.sz) (hc0 : s.heap.size + 0 = z.sz) (hr : meth.sig.returnType = (some .int)) (hlk : meth.locks = false) : ∀ (h : Hp) (v0 : Nat) (H : Heap) (locs : List Loc) (ls : Array Slot), Pw s0 s E z h H locs → lv_has ls 4 [(0, .ref v0)] → f_X6_takeNumber_31 n z h v0 = some (r, h') → W p l e (rmO 5 112) s m args below meth c H locs 0 0 (Zt below s0 E z h' (some (.int r)) args s 0 0) (F0 m 31 ls []) := by
  have hx := B.1
  have hb := B.2.1
  intro h v0 H locs ls hw hl hf
  unfold f_X6_takeNumber_31 at hf
  refine lv_aload_n hx hb dX6_takeNumber_31 rfl (lv_at hl 0 rfl) ?_
  refine lv_iconst (v := 3) hx hb dX6_takeNumber_32 (by decide) ?_
  obtain ⟨⟨x1, h2⟩, e, hf⟩ := ob hf
  refine q_callV (As := [.int 3]) (rest := []) (st1 := [.int x1]) (c_X6_wrong G e) B hw hz hc0 (k_X6_wrong e) (by decide) (ci := 6) rfl rfl my_X6_wrong mv_X6_wrong tw_3_67 ⟨Nat.le_of_ble_eq_true rfl, Nat.le_of_ble_eq_true rfl⟩ ⟨Nat.zero_le _, Nat.zero_le _⟩ rfl hl.1 rfl rfl (Nat.le_of_ble_eq_true rfl) dX6_takeNumber_33 (fun H locs hw => ?_)
  refine lv_pop hx hb dX6_takeNumber_36 rfl ?_
  refine lv_iconst (v := 0) hx hb dX6_takeNumber_37 (by decide) ?_
  obtain ⟨rfl, rfl⟩ := so2 hf
  exact q_iret B hw hz hc0 hr hlk dX6_takeNumber_38
set_option maxHeartbeats 4000000 in
theorem c_X6_takeNumber {l : Launch} {s0 : State} {E : Ev} (G : Gl s0 E) {n : Nat} {z : Sh} {h : Hp} {v0 : Nat} {v1 : Int32} {v2 : Int32} {r : Int32} {h' : Hp} (hf : f_X6_takeNumber n z h v0 v1 v2 = some (r, h')) : Ct l s0 E yX6_takeNumber cX6_takeNumber 4 (some .int) 5 112 [.ref v0, .int v1, .int v2] z h h' (some (.int r)) := by
  refine Ct.of G (by decide) (Nat.le_of_ble_eq_true rfl) ?_
  intro p e s m below meth c ls B hw hz hc0 hr hlk hl
  have B : Bd p s0 s E m c cX6_takeNumber 4 RX6 := B
  have hx := B.1
  have hb := B.2.1
  have hl : lv_has ls 4 [(0, .ref v0), (1, .int v1), (2, .int v2)] := hl
  unfold f_X6_takeNumber at hf
  obtain ⟨_, hf⟩ := if_some hf
  refine lv_aload_n hx hb dX6_takeNumber_0 rfl (lv_at hl 0 rfl) ?_
  obtain ⟨x1, e, hf⟩ := ob hf
  refine q_getI e B hw fd_6_6.1 fd_6_6.2.1 fd_6_6.2.2.1 fd_6_6.2.2.2.1 fd_6_6.2.2.2.2 rfl tw_1_111 dX6_takeNumber_1 ?_
  refine lv_iconst (v := 1) hx hb dX6_takeNumber_4 (by decide) ?_
  refine lv_icmp_eq (tgt := 16) hx hb dX6_takeNumber_5 (by decide) (fun c2 => ?_) (fun c2 => ?_)
  · have hf := (if_pos c2).symm.trans hf
    refine lv_aload_n hx hb dX6_takeNumber_16 rfl (lv_at hl 0 rfl) ?_
    obtain ⟨x3, e, hf⟩ := ob hf
    refine q_getI e B hw fd_6_7.1 fd_6_7.2.1 fd_6_7.2.2.1 fd_6_7.2.2.2.1 fd_6_7.2.2.2.2 rfl tw_1_112 dX6_takeNumber_17 ?_
    refine lv_istore_n (lv' := [(3, .int x3), (0, .ref v0), (1, .int v1), (2, .int v2)]) hx hb dX6_takeNumber_20 rfl hl (by decide) rfl (fun ls hl => ?_)
    refine lv_iload_n hx hb dX6_takeNumber_21 rfl (lv_at hl 0 rfl) ?_
    refine lv_iload_n hx hb dX6_takeNumber_22 rfl (lv_at hl 2 rfl) ?_
    refine lv_icmp_lt (tgt := 31) hx hb dX6_takeNumber_23 (by decide) (fun c4 => ?_) (fun c4 => ?_)
    · have hf := (if_pos c4).symm.trans hf
      exact w_X6_takeNumber_31 G B hz hc0 hr hlk  h v0 _ _ _ hw (lv_sub hl [1] rfl) hf
    · have hf := (if_neg c4).symm.trans hf
      refine lv_iload_n hx hb dX6_takeNumber_26 rfl (lv_at hl 0 rfl) ?_
      refine lv_iload_n hx hb dX6_takeNumber_27 rfl (lv_at hl 3 rfl) ?_
      refine lv_icmp_le (tgt := 39) hx hb dX6_takeNumber_28 (by decide) (fun c5 => ?_) (fun c5 => ?_)
      · have hf := (if_pos c5).symm.trans hf
        refine lv_aload_n hx hb dX6_takeNumber_39 rfl (lv_at hl 1 rfl) ?_
        obtain ⟨h6, e, hf⟩ := ob hf
        refine q_callV (As := []) (rest := []) (st1 := []) (c_X6_next G e) B hw hz hc0 (k_X6_next e) (by decide) (ci := 6) rfl rfl my_X6_next mv_X6_next tw_2_171 ⟨Nat.le_of_ble_eq_true rfl, Nat.le_of_ble_eq_true rfl⟩ ⟨Nat.zero_le _, Nat.zero_le _⟩ rfl hl.1 rfl rfl (Nat.le_of_ble_eq_true rfl) dX6_takeNumber_40 (fun H locs hw => ?_)
        refine lv_iload_n hx hb dX6_takeNumber_43 rfl (lv_at hl 0 rfl) ?_
        obtain ⟨rfl, rfl⟩ := so2 hf
        exact q_iret B hw hz hc0 hr hlk dX6_takeNumber_44
      · have hf := (if_neg c5).symm.trans hf
        exact w_X6_takeNumber_31 G B hz hc0 hr hlk  h v0 _ _ _ hw (lv_sub hl [1] rfl) hf
  · have hf := (if_neg c2).symm.trans hf
    refine lv_aload_n hx hb dX6_takeNumber_8 rfl (lv_at hl 0 rfl) ?_
    refine lv_iconst (v := 2) hx hb dX6_takeNumber_9 (by decide) ?_
    obtain ⟨⟨x7, h8⟩, e, hf⟩ := ob hf
    refine q_callV (As := [.int 2]) (rest := []) (st1 := [.int x7]) (c_X6_wrong G e) B hw hz hc0 (k_X6_wrong e) (by decide) (ci := 6) rfl rfl my_X6_wrong mv_X6_wrong tw_3_67 ⟨Nat.le_of_ble_eq_true rfl, Nat.le_of_ble_eq_true rfl⟩ ⟨Nat.zero_le _, Nat.zero_le _⟩ rfl hl.1 rfl rfl (Nat.le_of_ble_eq_true rfl) dX6_takeNumber_10 (fun H locs hw => ?_)
    refine lv_pop hx hb dX6_takeNumber_13 rfl ?_
    refine lv_iconst (v := 0) hx hb dX6_takeNumber_14 (by decide) ?_
    obtain ⟨rfl, rfl⟩ := so2 hf
    exact q_iret B hw hz hc0 hr hlk dX6_takeNumber_15
/-! SecondLife$Reader.endLine()Z -/
def f_X6_endLine (n : Nat) (z : Sh) (h : Hp) (v0 : Nat) : Option (Int32 × Hp) :=
  if z.K v0 = 6 then
    (gR z h 6 v0 8).bind fun a1 =>
    (gI z h 8 a1 5).bind fun x2 =>
    (pI z h 8 a1 5 (x2 + 1)).bind fun h3 =>
    (f_X6_take n z h3 v0 (z.st 14)).bind fun (x4, h5) =>
    (bz x4).bind fun x6 =>
    some (x6, h5)
  else none
theorem k_X6_endLine {n : Nat} {z : Sh} {h : Hp} {v0 : Nat} {w : Int32 × Hp} (hf : f_X6_endLine n z h v0 = some w) : z.K v0 = 6 := by
  unfold f_X6_endLine at hf
  exact (if_some hf).1
set_option maxHeartbeats 4000000 in
theorem c_X6_endLine {l : Launch} {s0 : State} {E : Ev} (G : Gl s0 E) {n : Nat} {z : Sh} {h : Hp} {v0 : Nat} {r : Int32} {h' : Hp} (hf : f_X6_endLine n z h v0 = some (r, h')) : Ct l s0 E yX6_endLine cX6_endLine 1 (some .boolean) 6 133 [.ref v0] z h h' (some (.int r)) := by
  refine Ct.of G (by decide) (Nat.le_of_ble_eq_true rfl) ?_
  intro p e s m below meth c ls B hw hz hc0 hr hlk hl
  have B : Bd p s0 s E m c cX6_endLine 1 RX6 := B
  have hx := B.1
  have hb := B.2.1
  have hl : lv_has ls 1 [(0, .ref v0)] := hl
  unfold f_X6_endLine at hf
  obtain ⟨_, hf⟩ := if_some hf
  refine lv_aload_n hx hb dX6_endLine_0 rfl (lv_at hl 0 rfl) ?_
  obtain ⟨a1, e, hf⟩ := ob hf
  refine q_getR e B hw fd_6_8.1 fd_6_8.2.1 fd_6_8.2.2.1 fd_6_8.2.2.2.1 fd_6_8.2.2.2.2 rfl tw_1_113 dX6_endLine_1 ?_
  refine lv_dup hx hb dX6_endLine_4 rfl ?_
  obtain ⟨x2, e, hf⟩ := ob hf
  refine q_getIN e B hw fd_8_5.1 fd_8_5.2.1 fd_8_5.2.2.1 fd_8_5.2.2.2.1 fd_8_5.2.2.2.2 rfl tw_1_71 dX6_endLine_5 ?_
  refine lv_iconst (v := 1) hx hb dX6_endLine_8 (by decide) ?_
  refine lv_iadd hx hb dX6_endLine_9 ?_
  obtain ⟨h3, e, hf⟩ := ob hf
  refine q_putIN e B hw fd_8_5.1 fd_8_5.2.1 fd_8_5.2.2.1 fd_8_5.2.2.2.1 fd_8_5.2.2.2.2 rfl rfl (tyX8_ok 5 (by decide)) tyX8 tyX8_ok nmX8 tw_1_71 dX6_endLine_10 (fun H locs hw => ?_)
  refine lv_aload_n hx hb dX6_endLine_13 rfl (lv_at hl 0 rfl) ?_
  refine q_ldcS (tx := ";") G (i := 14) (List.mem_of_getElem? (i := 4) (by decide +kernel)) B hw dX6_endLine_14 ?_
  obtain ⟨⟨x4, h5⟩, e, hf⟩ := ob hf
  refine q_callV (As := [.ref (z.st 14)]) (rest := []) (st1 := [.int x4]) (c_X6_take G e) B hw hz hc0 (k_X6_take e) (by decide) (ci := 6) rfl rfl my_X6_take mv_X6_take tw_3_38 ⟨Nat.le_of_ble_eq_true rfl, Nat.le_of_ble_eq_true rfl⟩ ⟨Nat.zero_le _, Nat.zero_le _⟩ rfl hl.1 rfl rfl (Nat.le_of_ble_eq_true rfl) dX6_endLine_16 (fun H locs hw => ?_)
  obtain ⟨x6, e, hf⟩ := ob hf
  obtain ⟨e1, e⟩ := if_some e
  cases e
  obtain ⟨rfl, rfl⟩ := so2 hf
  exact q_zret e1 B hw hz hc0 hr hlk dX6_endLine_19
/-! SecondLife$Reader.readPerson()Z -/
def f_X6_readPerson_115 (n : Nat) (z : Sh) (h : Hp) (v0 : Nat) (v1 : Int32) (v2 : Int32) : Option (Int32 × Hp) :=
  (gR z h 6 v0 8).bind fun a1 =>
  (f_X8_addPerson z h a1 v1 v2).bind fun h2 =>
  some (1, h2)
def f_X6_readPerson_108 (n : Nat) (z : Sh) (k29 : Hp → Nat → Int32 → Int32 → Int32 → Option (Int32 × Hp)) (h : Hp) (v0 : Nat) (v1 : Int32) (v3 : Int32) (u0 : Int32) : Option (Int32 × Hp) :=
  (some (v3 + 1)).bind fun x1 =>
  k29 h v0 v1 u0 x1
def f_X6_readPerson_96 (n : Nat) (z : Sh) (k29 : Hp → Nat → Int32 → Int32 → Int32 → Option (Int32 × Hp)) (h : Hp) (v0 : Nat) (v2 : Int32) (v3 : Int32) (v4 : Int32) (v5 : Int32) (u0 : Int32) : Option (Int32 × Hp) :=
  if v4 = 0 then
    f_X6_readPerson_108 n z k29 h v0 u0 v3 v5
  else
    f_X6_readPerson_108 n z k29 h v0 u0 v3 v2
def f_X6_readPerson_55 (n : Nat) (z : Sh) (k29 : Hp → Nat → Int32 → Int32 → Int32 → Option (Int32 × Hp)) (h : Hp) (v0 : Nat) (v1 : Int32) (v2 : Int32) (v3 : Int32) : Option (Int32 × Hp) :=
  (f_X6_is n z h v0 (z.st 16)).bind fun x1 =>
  (f_X6_next n z h v0).bind fun h2 =>
  (f_X6_takeNumber n z h2 v0 0 9).bind fun (x3, h4) =>
  (gI z h4 6 v0 0).bind fun x5 =>
  if x5 = 0 then
    if x1 = 0 then
      f_X6_readPerson_96 n z k29 h4 v0 v2 v3 x1 x3 v1
    else
      f_X6_readPerson_96 n z k29 h4 v0 v2 v3 x1 x3 x3
  else
    some (0, h4)
def f_X6_readPerson_29 (n : Nat) (z : Sh) : Nat → Hp → Nat → Int32 → Int32 → Int32 → Option (Int32 × Hp)
  | 0, _, _, _, _, _ => none
  | i + 1, h, v0, v1, v2, v3 =>
    (gI z h 6 v0 3).bind fun x1 =>
    if x1 ≤ v3 then
      f_X6_readPerson_115 n z h v0 v1 v2
    else
      (f_X6_is n z h v0 (z.st 16)).bind fun x3 =>
      if x3 = 0 then
        (f_X6_is n z h v0 (z.st 17)).bind fun x5 =>
        if x5 = 0 then
          f_X6_readPerson_115 n z h v0 v1 v2
        else
          f_X6_readPerson_55 n z (f_X6_readPerson_29 n z i) h v0 v1 v2 v3
      else
        f_X6_readPerson_55 n z (f_X6_readPerson_29 n z i) h v0 v1 v2 v3
def f_X6_readPerson (n : Nat) (z : Sh) (h : Hp) (v0 : Nat) : Option (Int32 × Hp) :=
  if z.K v0 = 6 then
    (gR z h 6 v0 8).bind fun a1 =>
    (gI z h 8 a1 2).bind fun x2 =>
    if x2 < 6 then
      (f_X6_next n z h v0).bind fun h4 =>
      f_X6_readPerson_29 n z n h4 v0 0 9 0
    else
      (f_X6_wrong z h v0 4).bind fun (x5, h6) =>
      (bz x5).bind fun x7 =>
      some (x7, h6)
  else none
theorem k_X6_readPerson {n : Nat} {z : Sh} {h : Hp} {v0 : Nat} {w : Int32 × Hp} (hf : f_X6_readPerson n z h v0 = some w) : z.K v0 = 6 := by
  unfold f_X6_readPerson at hf
  exact (if_some hf).1
set_option maxHeartbeats 4000000 in
theorem w_X6_readPerson_115 {p : Program} {l : Launch} {e : Env} {s : State} {m : MethodId} {args : Array Value} {below : List Frame} {meth : Method} {c : Code} {s0 : State} {E : Ev} {z : Sh} {n : Nat} {r : Int32} {h' : Hp} (G : Gl s0 E) (B : Bd p s0 s E m c cX6_readPerson 6 RX6) (hz : s0.heap.size ≤ z.sz) (hc0 : s.heap.size + 0 = z.sz) (hr : meth.sig.returnType = (some .boolean)) (hlk : meth.locks = false) : ∀ (h : Hp) (v0 : Nat) (v1 : Int32) (v2 : Int32) (H : Heap) (locs : List Loc) (ls : Array Slot), Pw s0 s E z h H locs → lv_has ls 6 [(0, .ref v0), (1, .int v1), (2, .int v2)] → f_X6_readPerson_115 n z h v0 v1 v2 = some (r, h') → W p l e (rmO 6 135) s m args below meth c H locs 0 0 (Zt below s0 E z h' (some (.int r)) args s 0 0) (F0 m 115 ls []) := by
  have hx := B.1
  have hb := B.2.1
  intro h v0 v1 v2 H locs ls hw hl hf
  unfold f_X6_readPerson_115 at hf
  refine lv_aload_n hx hb dX6_readPerson_115 rfl (lv_at hl 0 rfl) ?_
  obtain ⟨a1, e, hf⟩ := ob hf
  refine q_getR e B hw fd_6_8.1 fd_6_8.2.1 fd_6_8.2.2.1 fd_6_8.2.2.2.1 fd_6_8.2.2.2.2 rfl tw_1_113 dX6_readPerson_116 ?_
  refine lv_iload_n hx hb dX6_readPerson_119 rfl (lv_at hl 1 rfl) ?_
  refine lv_iload_n hx hb dX6_readPerson_120 rfl (lv_at hl 2 rfl) ?_
  obtain ⟨h2, e, hf⟩ := ob hf
  refine q_callVN (As := [.int v1, .int v2]) (rest := []) (st1 := []) (c_X8_addPerson G e) B hw hz hc0 (k_X8_addPerson e) (by decide) (ci := 8) rfl rfl my_X8_addPerson mv_X8_addPerson tw_3_93 ⟨Nat.le_of_ble_eq_true rfl, Nat.le_of_ble_eq_true rfl⟩ ⟨Nat.zero_le _, Nat.zero_le _⟩ rfl hl.1 rfl rfl (Nat.le_of_ble_eq_true rfl) dX6_readPerson_121 (fun H locs hw => ?_)
  refine lv_iconst (v := 1) hx hb dX6_readPerson_124 (by decide) ?_
  obtain ⟨rfl, rfl⟩ := so2 hf
  exact q_zret (Or.inr rfl) B hw hz hc0 hr hlk dX6_readPerson_125
set_option maxHeartbeats 4000000 in
theorem w_X6_readPerson_108 {p : Program} {l : Launch} {e : Env} {s : State} {m : MethodId} {args : Array Value} {below : List Frame} {meth : Method} {c : Code} {s0 : State} {E : Ev} {z : Sh} {n : Nat} {k29 : Hp → Nat → Int32 → Int32 → Int32 → Option (Int32 × Hp)} {r : Int32} {h' : Hp} (G : Gl s0 E) (B : Bd p s0 s E m c cX6_readPerson 6 RX6) (hz : s0.heap.size ≤ z.sz) (hc0 : s.heap.size + 0 = z.sz) (hr : meth.sig.returnType = (some .boolean)) (hlk : meth.locks = false) (hk29 : ∀ (h : Hp) (v0 : Nat) (v1 : Int32) (v2 : Int32) (v3 : Int32) (H : Heap) (locs : List Loc) (ls : Array Slot), Pw s0 s E z h H locs → lv_has ls 6 [(0, .ref v0), (1, .int v1), (2, .int v2), (3, .int v3)] → k29 h v0 v1 v2 v3 = some (r, h') → W p l e (rmO 6 135) s m args below meth c H locs 0 0 (Zt below s0 E z h' (some (.int r)) args s 0 0) (F0 m 29 ls [])) : ∀ (h : Hp) (v0 : Nat) (v1 : Int32) (v3 : Int32) (u0 : Int32) (H : Heap) (locs : List Loc) (ls : Array Slot), Pw s0 s E z h H locs → lv_has ls 6 [(0, .ref v0), (1, .int v1), (3, .int v3)] → f_X6_readPerson_108 n z k29 h v0 v1 v3 u0 = some (r, h') → W p l e (rmO 6 135) s m args below meth c H locs 0 0 (Zt below s0 E z h' (some (.int r)) args s 0 0) (F0 m 108 ls [.int u0]) := by
  have hx := B.1
  have hb := B.2.1
  intro h v0 v1 v3 u0 H locs ls hw hl hf
  unfold f_X6_readPerson_108 at hf
  refine lv_istore_n (lv' := [(2, .int u0), (0, .ref v0), (1, .int v1), (3, .int v3)]) hx hb dX6_readPerson_108 rfl hl (by decide) rfl (fun ls hl => ?_)
  obtain ⟨x1, e, hf⟩ := ob hf
  refine lv_iinc (v := x1) (lv' := [(3, .int x1), (2, .int u0), (0, .ref v0), (1, .int v1)]) hx hb dX6_readPerson_109 hl (k := 3) rfl (Option.some.inj e) (by decide) rfl (fun ls hl => ?_)
  refine lv_goto (tgt := 29) hx hb dX6_readPerson_112 (by decide) ?_
  exact hk29 h v0 v1 u0 x1 _ _ _ hw (lv_sub hl [2, 3, 1, 0] rfl) hf
set_option maxHeartbeats 4000000 in
theorem w_X6_readPerson_96 {p : Program} {l : Launch} {e : Env} {s : State} {m : MethodId} {args : Array Value} {below : List Frame} {meth : Method} {c : Code} {s0 : State} {E : Ev} {z : Sh} {n : Nat} {k29 : Hp → Nat → Int32 → Int32 → Int32 → Option (Int32 × Hp)} {r : Int32} {h' : Hp} (G : Gl s0 E) (B : Bd p s0 s E m c cX6_readPerson 6 RX6) (hz : s0.heap.size ≤ z.sz) (hc0 : s.heap.size + 0 = z.sz) (hr : meth.sig.returnType = (some .boolean)) (hlk : meth.locks = false) (hk29 : ∀ (h : Hp) (v0 : Nat) (v1 : Int32) (v2 : Int32) (v3 : Int32) (H : Heap) (locs : List Loc) (ls : Array Slot), Pw s0 s E z h H locs → lv_has ls 6 [(0, .ref v0), (1, .int v1), (2, .int v2), (3, .int v3)] → k29 h v0 v1 v2 v3 = some (r, h') → W p l e (rmO 6 135) s m args below meth c H locs 0 0 (Zt below s0 E z h' (some (.int r)) args s 0 0) (F0 m 29 ls [])) : ∀ (h : Hp) (v0 : Nat) (v2 : Int32) (v3 : Int32) (v4 : Int32) (v5 : Int32) (u0 : Int32) (H : Heap) (locs : List Loc) (ls : Array Slot), Pw s0 s E z h H locs → lv_has ls 6 [(0, .ref v0), (2, .int v2), (3, .int v3), (4, .int v4), (5, .int v5)] → f_X6_readPerson_96 n z k29 h v0 v2 v3 v4 v5 u0 = some (r, h') → W p l e (rmO 6 135) s m args below meth c H locs 0 0 (Zt below s0 E z h' (some (.int r)) args s 0 0) (F0 m 96 ls [.int u0]) := by
  have hx := B.1
  have hb := B.2.1
  intro h v0 v2 v3 v4 v5 u0 H locs ls hw hl hf
  unfold f_X6_readPerson_96 at hf
  refine lv_istore_n (lv' := [(1, .int u0), (0, .ref v0), (2, .int v2), (3, .int v3), (4, .int v4), (5, .int v5)]) hx hb dX6_readPerson_96 rfl hl (by decide) rfl (fun ls hl => ?_)
  refine lv_iload hx hb dX6_readPerson_97 (lv_at hl 4 rfl) ?_
  refine lv_if_eq (tgt := 106) hx hb dX6_readPerson_99 (by decide) (fun c1 => ?_) (fun c1 => ?_)
  · have hf := (if_pos c1).symm.trans hf
    refine lv_iload hx hb dX6_readPerson_106 (lv_at hl 5 rfl) ?_
    exact w_X6_readPerson_108 G B hz hc0 hr hlk hk29 h v0 u0 v3 v5 _ _ _ hw (lv_sub hl [1, 0, 3] rfl) hf
  · have hf := (if_neg c1).symm.trans hf
    refine lv_iload_n hx hb dX6_readPerson_102 rfl (lv_at hl 2 rfl) ?_
    refine lv_goto (tgt := 108) hx hb dX6_readPerson_103 (by decide) ?_
    exact w_X6_readPerson_108 G B hz hc0 hr hlk hk29 h v0 u0 v3 v2 _ _ _ hw (lv_sub hl [1, 0, 3] rfl) hf
set_option maxHeartbeats 4000000 in
theorem w_X6_readPerson_55 {p : Program} {l : Launch} {e : Env} {s : State} {m : MethodId} {args : Array Value} {below : List Frame} {meth : Method} {c : Code} {s0 : State} {E : Ev} {z : Sh} {n : Nat} {k29 : Hp → Nat → Int32 → Int32 → Int32 → Option (Int32 × Hp)} {r : Int32} {h' : Hp} (G : Gl s0 E) (B : Bd p s0 s E m c cX6_readPerson 6 RX6) (hz : s0.heap.size ≤ z.sz) (hc0 : s.heap.size + 0 = z.sz) (hr : meth.sig.returnType = (some .boolean)) (hlk : meth.locks = false) (hk29 : ∀ (h : Hp) (v0 : Nat) (v1 : Int32) (v2 : Int32) (v3 : Int32) (H : Heap) (locs : List Loc) (ls : Array Slot), Pw s0 s E z h H locs → lv_has ls 6 [(0, .ref v0), (1, .int v1), (2, .int v2), (3, .int v3)] → k29 h v0 v1 v2 v3 = some (r, h') → W p l e (rmO 6 135) s m args below meth c H locs 0 0 (Zt below s0 E z h' (some (.int r)) args s 0 0) (F0 m 29 ls [])) : ∀ (h : Hp) (v0 : Nat) (v1 : Int32) (v2 : Int32) (v3 : Int32) (H : Heap) (locs : List Loc) (ls : Array Slot), Pw s0 s E z h H locs → lv_has ls 6 [(0, .ref v0), (1, .int v1), (2, .int v2), (3, .int v3)] → f_X6_readPerson_55 n z k29 h v0 v1 v2 v3 = some (r, h') → W p l e (rmO 6 135) s m args below meth c H locs 0 0 (Zt below s0 E z h' (some (.int r)) args s 0 0) (F0 m 55 ls []) := by
  have hx := B.1
  have hb := B.2.1
  intro h v0 v1 v2 v3 H locs ls hw hl hf
  unfold f_X6_readPerson_55 at hf
  refine lv_aload_n hx hb dX6_readPerson_55 rfl (lv_at hl 0 rfl) ?_
  refine q_ldcS (tx := "talent") G (i := 16) (List.mem_of_getElem? (i := 6) (by decide +kernel)) B hw dX6_readPerson_56 ?_
  obtain ⟨x1, e, hf⟩ := ob hf
  refine q_callV (As := [.ref (z.st 16)]) (rest := []) (st1 := [.int x1]) (c_X6_is G e) B hw hz hc0 (k_X6_is e) (by decide) (ci := 6) rfl rfl my_X6_is mv_X6_is tw_3_42 ⟨Nat.le_of_ble_eq_true rfl, Nat.le_of_ble_eq_true rfl⟩ ⟨Nat.zero_le _, Nat.zero_le _⟩ rfl hl.1 rfl rfl (Nat.le_of_ble_eq_true rfl) dX6_readPerson_58 (fun H locs hw => ?_)
  refine lv_istore (lv' := [(4, .int x1), (0, .ref v0), (1, .int v1), (2, .int v2), (3, .int v3)]) hx hb dX6_readPerson_61 hl (by decide) rfl (fun ls hl => ?_)
  refine lv_aload_n hx hb dX6_readPerson_63 rfl (lv_at hl 1 rfl) ?_
  obtain ⟨h2, e, hf⟩ := ob hf
  refine q_callV (As := []) (rest := []) (st1 := []) (c_X6_next G e) B hw hz hc0 (k_X6_next e) (by decide) (ci := 6) rfl rfl my_X6_next mv_X6_next tw_2_171 ⟨Nat.le_of_ble_eq_true rfl, Nat.le_of_ble_eq_true rfl⟩ ⟨Nat.zero_le _, Nat.zero_le _⟩ rfl hl.1 rfl rfl (Nat.le_of_ble_eq_true rfl) dX6_readPerson_64 (fun H locs hw => ?_)
  refine lv_aload_n hx hb dX6_readPerson_67 rfl (lv_at hl 1 rfl) ?_
  refine lv_iconst (v := 0) hx hb dX6_readPerson_68 (by decide) ?_
  refine lv_bipush (v := 9) hx hb dX6_readPerson_69 (by decide) ?_
  obtain ⟨⟨x3, h4⟩, e, hf⟩ := ob hf
  refine q_callV (As := [.int 0, .int 9]) (rest := []) (st1 := [.int x3]) (c_X6_takeNumber G e) B hw hz hc0 (k_X6_takeNumber e) (by decide) (ci := 6) rfl rfl my_X6_takeNumber mv_X6_takeNumber tw_3_72 ⟨Nat.le_of_ble_eq_true rfl, Nat.le_of_ble_eq_true rfl⟩ ⟨Nat.zero_le _, Nat.zero_le _⟩ rfl hl.1 rfl rfl (Nat.le_of_ble_eq_true rfl) dX6_readPerson_71 (fun H locs hw => ?_)
  refine lv_istore (lv' := [(5, .int x3), (4, .int x1), (0, .ref v0), (1, .int v1), (2, .int v2), (3, .int v3)]) hx hb dX6_readPerson_74 hl (by decide) rfl (fun ls hl => ?_)
  refine lv_aload_n hx hb dX6_readPerson_76 rfl (lv_at hl 2 rfl) ?_
  obtain ⟨x5, e, hf⟩ := ob hf
  refine q_getI e B hw fd_6_0.1 fd_6_0.2.1 fd_6_0.2.2.1 fd_6_0.2.2.2.1 fd_6_0.2.2.2.2 rfl tw_1_103 dX6_readPerson_77 ?_
  refine lv_if_eq (tgt := 85) hx hb dX6_readPerson_80 (by decide) (fun c6 => ?_) (fun c6 => ?_)
  · have hf := (if_pos c6).symm.trans hf
    refine lv_iload hx hb dX6_readPerson_85 (lv_at hl 1 rfl) ?_
    refine lv_if_eq (tgt := 95) hx hb dX6_readPerson_87 (by decide) (fun c7 => ?_) (fun c7 => ?_)
    · have hf := (if_pos c7).symm.trans hf
      refine lv_iload_n hx hb dX6_readPerson_95 rfl (lv_at hl 3 rfl) ?_
      exact w_X6_readPerson_96 G B hz hc0 hr hlk hk29 h4 v0 v2 v3 x1 x3 v1 _ _ _ hw (lv_sub hl [2, 4, 5, 1, 0] rfl) hf
    · have hf := (if_neg c7).symm.trans hf
      refine lv_iload hx hb dX6_readPerson_90 (lv_at hl 0 rfl) ?_
      refine lv_goto (tgt := 96) hx hb dX6_readPerson_92 (by decide) ?_
      exact w_X6_readPerson_96 G B hz hc0 hr hlk hk29 h4 v0 v2 v3 x1 x3 x3 _ _ _ hw (lv_sub hl [2, 4, 5, 1, 0] rfl) hf
  · have hf := (if_neg c6).symm.trans hf
    refine lv_iconst (v := 0) hx hb dX6_readPerson_83 (by decide) ?_
    obtain ⟨rfl, rfl⟩ := so2 hf
    exact q_zret (Or.inl rfl) B hw hz hc0 hr hlk dX6_readPerson_84
set_option maxHeartbeats 4000000 in
theorem w_X6_readPerson_29 {p : Program} {l : Launch} {e : Env} {s : State} {m : MethodId} {args : Array Value} {below : List Frame} {meth : Method} {c : Code} {s0 : State} {E : Ev} {z : Sh} {n : Nat} {r : Int32} {h' : Hp} (G : Gl s0 E) (B : Bd p s0 s E m c cX6_readPerson 6 RX6) (hz : s0.heap.size ≤ z.sz) (hc0 : s.heap.size + 0 = z.sz) (hr : meth.sig.returnType = (some .boolean)) (hlk : meth.locks = false) : ∀ (i : Nat), ∀ (h : Hp) (v0 : Nat) (v1 : Int32) (v2 : Int32) (v3 : Int32) (H : Heap) (locs : List Loc) (ls : Array Slot), Pw s0 s E z h H locs → lv_has ls 6 [(0, .ref v0), (1, .int v1), (2, .int v2), (3, .int v3)] → f_X6_readPerson_29 n z i h v0 v1 v2 v3 = some (r, h') → W p l e (rmO 6 135) s m args below meth c H locs 0 0 (Zt below s0 E z h' (some (.int r)) args s 0 0) (F0 m 29 ls []) := by
  have hx := B.1
  have hb := B.2.1
  intro i
  induction i with
  | zero =>
    intro h v0 v1 v2 v3 H locs ls hw hl hf
    have hf := (f_X6_readPerson_29.eq_1 ..).symm.trans hf
    cases hf
  | succ i ih =>
    intro h v0 v1 v2 v3 H locs ls hw hl hf
    have hf := (f_X6_readPerson_29.eq_2 ..).symm.trans hf
    refine lv_iload_n hx hb dX6_readPerson_29 rfl (lv_at hl 3 rfl) ?_
    refine lv_aload_n hx hb dX6_readPerson_30 rfl (lv_at hl 0 rfl) ?_
    obtain ⟨x1, e, hf⟩ := ob hf
    refine q_getI e B hw fd_6_3.1 fd_6_3.2.1 fd_6_3.2.2.1 fd_6_3.2.2.2.1 fd_6_3.2.2.2.2 rfl tw_1_108 dX6_readPerson_31 ?_
    refine lv_icmp_ge (tgt := 115) hx hb dX6_readPerson_34 (by decide) (fun c2 => ?_) (fun c2 => ?_)
    · have hf := (if_pos c2).symm.trans hf
      exact w_X6_readPerson_115 G B hz hc0 hr hlk  h v0 v1 v2 _ _ _ hw (lv_sub hl [0, 1, 2] rfl) hf
    · have hf := (if_neg c2).symm.trans hf
      refine lv_aload_n hx hb dX6_readPerson_37 rfl (lv_at hl 0 rfl) ?_
      refine q_ldcS (tx := "talent") G (i := 16) (List.mem_of_getElem? (i := 6) (by decide +kernel)) B hw dX6_readPerson_38 ?_
      obtain ⟨x3, e, hf⟩ := ob hf
      refine q_callV (As := [.ref (z.st 16)]) (rest := []) (st1 := [.int x3]) (c_X6_is G e) B hw hz hc0 (k_X6_is e) (by decide) (ci := 6) rfl rfl my_X6_is mv_X6_is tw_3_42 ⟨Nat.le_of_ble_eq_true rfl, Nat.le_of_ble_eq_true rfl⟩ ⟨Nat.zero_le _, Nat.zero_le _⟩ rfl hl.1 rfl rfl (Nat.le_of_ble_eq_true rfl) dX6_readPerson_40 (fun H locs hw => ?_)
      refine lv_if_ne (tgt := 55) hx hb dX6_readPerson_43 (by decide) (fun c4 => ?_) (fun c4 => ?_)
      · have hf := (if_neg c4).symm.trans hf
        exact w_X6_readPerson_55 G B hz hc0 hr hlk ih h v0 v1 v2 v3 _ _ _ hw (lv_sub hl [0, 1, 2, 3] rfl) hf
      · have hf := (if_pos c4).symm.trans hf
        refine lv_aload_n hx hb dX6_readPerson_46 rfl (lv_at hl 0 rfl) ?_
        refine q_ldcS (tx := "fear") G (i := 17) (List.mem_of_getElem? (i := 7) (by decide +kernel)) B hw dX6_readPerson_47 ?_
        obtain ⟨x5, e, hf⟩ := ob hf
        refine q_callV (As := [.ref (z.st 17)]) (rest := []) (st1 := [.int x5]) (c_X6_is G e) B hw hz hc0 (k_X6_is e) (by decide) (ci := 6) rfl rfl my_X6_is mv_X6_is tw_3_42 ⟨Nat.le_of_ble_eq_true rfl, Nat.le_of_ble_eq_true rfl⟩ ⟨Nat.zero_le _, Nat.zero_le _⟩ rfl hl.1 rfl rfl (Nat.le_of_ble_eq_true rfl) dX6_readPerson_49 (fun H locs hw => ?_)
        refine lv_if_eq (tgt := 115) hx hb dX6_readPerson_52 (by decide) (fun c6 => ?_) (fun c6 => ?_)
        · have hf := (if_pos c6).symm.trans hf
          exact w_X6_readPerson_115 G B hz hc0 hr hlk  h v0 v1 v2 _ _ _ hw (lv_sub hl [0, 1, 2] rfl) hf
        · have hf := (if_neg c6).symm.trans hf
          exact w_X6_readPerson_55 G B hz hc0 hr hlk ih h v0 v1 v2 v3 _ _ _ hw (lv_sub hl [0, 1, 2, 3] rfl) hf
set_option maxHeartbeats 4000000 in
theorem c_X6_readPerson {l : Launch} {s0 : State} {E : Ev} (G : Gl s0 E) {n : Nat} {z : Sh} {h : Hp} {v0 : Nat} {r : Int32} {h' : Hp} (hf : f_X6_readPerson n z h v0 = some (r, h')) : Ct l s0 E yX6_readPerson cX6_readPerson 6 (some .boolean) 6 135 [.ref v0] z h h' (some (.int r)) := by
  refine Ct.of G (by decide) (Nat.le_of_ble_eq_true rfl) ?_
  intro p e s m below meth c ls B hw hz hc0 hr hlk hl
  have B : Bd p s0 s E m c cX6_readPerson 6 RX6 := B
  have hx := B.1
  have hb := B.2.1
  have hl : lv_has ls 6 [(0, .ref v0)] := hl
  unfold f_X6_readPerson at hf
  obtain ⟨_, hf⟩ := if_some hf
  refine lv_aload_n hx hb dX6_readPerson_0 rfl (lv_at hl 0 rfl) ?_
  obtain ⟨a1, e, hf⟩ := ob hf
  refine q_getR e B hw fd_6_8.1 fd_6_8.2.1 fd_6_8.2.2.1 fd_6_8.2.2.2.1 fd_6_8.2.2.2.2 rfl tw_1_113 dX6_readPerson_1 ?_
  obtain ⟨x2, e, hf⟩ := ob hf
  refine q_getIN e B hw fd_8_2.1 fd_8_2.2.1 fd_8_2.2.2.1 fd_8_2.2.2.2.1 fd_8_2.2.2.2.2 rfl tw_1_62 dX6_readPerson_4 ?_
  refine lv_bipush (v := 6) hx hb dX6_readPerson_7 (by decide) ?_
  refine lv_icmp_lt (tgt := 18) hx hb dX6_readPerson_9 (by decide) (fun c3 => ?_) (fun c3 => ?_)
  · have hf := (if_pos c3).symm.trans hf
    refine lv_aload_n hx hb dX6_readPerson_18 rfl (lv_at hl 0 rfl) ?_
    obtain ⟨h4, e, hf⟩ := ob hf
    refine q_callV (As := []) (rest := []) (st1 := []) (c_X6_next G e) B hw hz hc0 (k_X6_next e) (by decide) (ci := 6) rfl rfl my_X6_next mv_X6_next tw_2_171 ⟨Nat.le_of_ble_eq_true rfl, Nat.le_of_ble_eq_true rfl⟩ ⟨Nat.zero_le _, Nat.zero_le _⟩ rfl hl.1 rfl rfl (Nat.le_of_ble_eq_true rfl) dX6_readPerson_19 (fun H locs hw => ?_)
    refine lv_iconst (v := 0) hx hb dX6_readPerson_22 (by decide) ?_
    refine lv_istore_n (lv' := [(1, .int 0), (0, .ref v0)]) hx hb dX6_readPerson_23 rfl hl (by decide) rfl (fun ls hl => ?_)
    refine lv_bipush (v := 9) hx hb dX6_readPerson_24 (by decide) ?_
    refine lv_istore_n (lv' := [(2, .int 9), (1, .int 0), (0, .ref v0)]) hx hb dX6_readPerson_26 rfl hl (by decide) rfl (fun ls hl => ?_)
    refine lv_iconst (v := 0) hx hb dX6_readPerson_27 (by decide) ?_
    refine lv_istore_n (lv' := [(3, .int 0), (2, .int 9), (1, .int 0), (0, .ref v0)]) hx hb dX6_readPerson_28 rfl hl (by decide) rfl (fun ls hl => ?_)
    exact w_X6_readPerson_29 G B hz hc0 hr hlk  n h4 v0 0 9 0 _ _ _ hw (lv_sub hl [3, 2, 1, 0] rfl) hf
  · have hf := (if_neg c3).symm.trans hf
    refine lv_aload_n hx hb dX6_readPerson_12 rfl (lv_at hl 0 rfl) ?_
    refine lv_iconst (v := 4) hx hb dX6_readPerson_13 (by decide) ?_
    obtain ⟨⟨x5, h6⟩, e, hf⟩ := ob hf
    refine q_callV (As := [.int 4]) (rest := []) (st1 := [.int x5]) (c_X6_wrong G e) B hw hz hc0 (k_X6_wrong e) (by decide) (ci := 6) rfl rfl my_X6_wrong mv_X6_wrong tw_3_67 ⟨Nat.le_of_ble_eq_true rfl, Nat.le_of_ble_eq_true rfl⟩ ⟨Nat.zero_le _, Nat.zero_le _⟩ rfl hl.1 rfl rfl (Nat.le_of_ble_eq_true rfl) dX6_readPerson_14 (fun H locs hw => ?_)
    obtain ⟨x7, e, hf⟩ := ob hf
    obtain ⟨e1, e⟩ := if_some e
    cases e
    obtain ⟨rfl, rfl⟩ := so2 hf
    exact q_zret e1 B hw hz hc0 hr hlk dX6_readPerson_17
