/-! SecondLife.lists(II)I -/
def f_X11_lists_21 (n : Nat)  (z : Sh) (h : Hp) : Option (Int32 × Hp × Sh) :=
  (f_X11_refused z h 2).bind fun x1 =>
  some (x1, h, z)
def f_X11_lists (n : Nat) (z : Sh) (h : Hp) (v0 : Nat) (v1 : Int32) (v2 : Int32) : Option (Int32 × Hp × Sh) :=
  if z.K v0 = 11 then
    gd3 z <|
    (f_X11_trayAt z h v0 v1).bind fun o1 =>
    (match o1 with
    | none =>
      f_X11_lists_21 n z h
    | some a2 =>
      (gR z h 11 v0 4).bind fun a3 =>
      (f_X5_has z h a3 v2).bind fun x4 =>
      if x4 = 0 then
        f_X11_lists_21 n z h
      else
        (gI z h 9 a2 1).bind fun x6 =>
        if x6 = 0 then
          (f_X11_refused z h 6).bind fun x16 =>
          some (x16, h, z)
        else
          (gR z h 11 v0 12).bind fun a8 =>
          (gR z h 11 v0 3).bind fun a9 =>
          (gR z h 11 v0 4).bind fun a10 =>
          (f_X10_about n z h a8 a9 a10 v2).bind fun h11 =>
          (gR z h11 11 v0 13).bind fun a12 =>
          (f_X1_listInto n z h11 a12 a2 v2).bind fun (x13, h14, z15) =>
          gd3 z15 <|
          some (x13, h14, z15))
  else none
theorem k_X11_lists {n : Nat} {z : Sh} {h : Hp} {v0 : Nat} {v1 : Int32} {v2 : Int32} {w : Int32 × Hp × Sh} (hf : f_X11_lists n z h v0 v1 v2 = some w) : z.K v0 = 11 := by
  unfold f_X11_lists at hf
  exact (if_some hf).1
theorem mo_X11_lists {n : Nat} {z : Sh} {h : Hp} {v0 : Nat} {v1 : Int32} {v2 : Int32} {r : Int32} {h' : Hp} {zE : Sh} (hf : f_X11_lists n z h v0 v1 v2 = some (r, h', zE)) : z.sz ≤ zE.sz ∧ z.sl ≤ zE.sl := by
  unfold f_X11_lists at hf
  exact (gd3_some (if_some hf).2).1
set_option maxHeartbeats 4000000 in
theorem w_X11_lists_21 {p : Program} {l : Launch} {e : Env} {s : State} {m : MethodId} {args : Array Value} {below : List Frame} {meth : Method} {c : Code} {s0 : State} {E : Ev} {z0 : Sh} {n : Nat} {r : Int32} {h' : Hp} {zE : Sh} (G : Gl s0 E) (B : Bd p s0 s E m c cX11_lists 4 RX11) (hr : meth.sig.returnType = (some .int)) (hlk : meth.locks = false) : ∀ (z : Sh) (h : Hp) (H : Heap) (locs : List Loc) (ls : Array Slot), Pw s0 s E z h H locs → Mo s0 s z0 z zE → lv_has ls 4 [] → f_X11_lists_21 n z h = some (r, h', zE) → W p l e (rmA 27 1353 z0 zE) s m args below meth c H locs (z.sz - z0.sz) (z.sl - z0.sl) (Zt below s0 E zE h' (some (.int r)) args s (zE.sz - z0.sz) (zE.sl - z0.sl)) (F0 m 21 ls []) := by
  have hx := B.1
  have hb := B.2.1
  intro z h H locs ls hw hM hl hf
  unfold f_X11_lists_21 at hf
  refine lv_iconst (v := 2) hx hb dX11_lists_21 (by decide) ?_
  obtain ⟨x1, e, hf⟩ := ob hf
  refine q_callS (As := [.int 2]) (rest := []) (st1 := [.int x1]) (c_X11_refused G e) B hw hM.hz hM.hc0 my_X11_refused mv_X11_refused tw_2_155 ⟨Nat.le_of_ble_eq_true rfl, Nat.le_of_ble_eq_true rfl⟩ hM.hcs rfl hl.1 rfl rfl (Nat.le_of_ble_eq_true rfl) dX11_lists_22 (fun H locs hw => ?_)
  obtain ⟨rfl, rfl, rfl⟩ := so3 hf
  exact q_iret B hw hM.hz hM.hc0 hr hlk dX11_lists_25
set_option maxHeartbeats 4000000 in
theorem c_X11_lists {l : Launch} {s0 : State} {E : Ev} (G : Gl s0 E) {n : Nat} {z : Sh} {h : Hp} {v0 : Nat} {v1 : Int32} {v2 : Int32} {r : Int32} {h' : Hp} {zE : Sh} (hf : f_X11_lists n z h v0 v1 v2 = some (r, h', zE)) : Ca l s0 E yX11_lists cX11_lists 4 (some .int) 27 1353 [.ref v0, .int v1, .int v2] z zE h h' (some (.int r)) := by
  refine Ca.of G (by decide +kernel) (Nat.le_of_ble_eq_true rfl) (mo_X11_lists hf) ?_
  intro p e s m below meth c ls B hw hM hr hlk hnm0 hl
  have B : Bd p s0 s E m c cX11_lists 4 RX11 := B
  have hx := B.1
  have hb := B.2.1
  have hl : lv_has ls 4 [(0, .ref v0), (1, .int v1), (2, .int v2)] := hl
  unfold f_X11_lists at hf
  obtain ⟨_, hf⟩ := if_some hf
  obtain ⟨_, hf⟩ := gd3_some hf
  refine lv_aload_n hx hb dX11_lists_0 rfl (lv_at hl 0 rfl) ?_
  refine lv_iload_n hx hb dX11_lists_1 rfl (lv_at hl 1 rfl) ?_
  obtain ⟨o1, e, hf⟩ := ob hf
  refine q_callV (As := [.int v1]) (rest := []) (st1 := [va_rf o1]) (c_X11_trayAt G e) B hw hM.hz hM.hc0 (k_X11_trayAt e) (by decide) (ci := 11) rfl rfl my_X11_trayAt mv_X11_trayAt tw_4_91 ⟨Nat.le_of_ble_eq_true rfl, Nat.le_of_ble_eq_true rfl⟩ hM.hcs rfl hl.1 rfl rfl (Nat.le_of_ble_eq_true rfl) dX11_lists_2 (fun H locs hw => ?_)
  rcases o1 with _ | a2
  · refine lv_astore_nN (lv' := [(3, .null), (0, .ref v0), (1, .int v1), (2, .int v2)]) hx hb dX11_lists_5 rfl hl (by decide) rfl (fun ls hl => ?_)
    refine lv_aload_nN hx hb dX11_lists_6 rfl (lv_at hl 0 rfl) ?_
    refine lv_ifnullN (tgt := 21) hx hb dX11_lists_7 (by decide) ?_
    exact w_X11_lists_21 G B hr hlk  z h _ _ _ hw hM (lv_sub hl [] rfl) hf
  · refine lv_astore_n (lv' := [(3, .ref a2), (0, .ref v0), (1, .int v1), (2, .int v2)]) hx hb dX11_lists_5 rfl hl (by decide) rfl (fun ls hl => ?_)
    refine lv_aload_n hx hb dX11_lists_6 rfl (lv_at hl 0 rfl) ?_
    refine lv_ifnull hx hb dX11_lists_7 ?_
    refine lv_aload_n hx hb dX11_lists_10 rfl (lv_at hl 1 rfl) ?_
    obtain ⟨a3, e, hf⟩ := ob hf
    refine q_getR e B hw fd_11_4.1 fd_11_4.2.1 fd_11_4.2.2.1 fd_11_4.2.2.2.1 fd_11_4.2.2.2.2 rfl tw_2_106 dX11_lists_11 ?_
    refine lv_iload_n hx hb dX11_lists_14 rfl (lv_at hl 3 rfl) ?_
    obtain ⟨x4, e, hf⟩ := ob hf
    refine q_callVN (As := [.int v2]) (rest := []) (st1 := [.int x4]) (c_X5_has G e) B hw hM.hz hM.hc0 (k_X5_has e) (by decide) (ci := 5) rfl rfl my_X5_has mv_X5_has tw_3_210 ⟨Nat.le_of_ble_eq_true rfl, Nat.le_of_ble_eq_true rfl⟩ hM.hcs rfl hl.1 rfl rfl (Nat.le_of_ble_eq_true rfl) dX11_lists_15 (fun H locs hw => ?_)
    refine lv_if_ne (tgt := 26) hx hb dX11_lists_18 (by decide) (fun c5 => ?_) (fun c5 => ?_)
    · have hf := (if_neg c5).symm.trans hf
      refine lv_aload_n hx hb dX11_lists_26 rfl (lv_at hl 0 rfl) ?_
      obtain ⟨x6, e, hf⟩ := ob hf
      refine q_getIN e B hw fd_9_1.1 fd_9_1.2.1 fd_9_1.2.2.1 fd_9_1.2.2.2.1 fd_9_1.2.2.2.2 rfl tw_2_87 dX11_lists_27 ?_
      refine lv_if_ne (tgt := 39) hx hb dX11_lists_30 (by decide) (fun c7 => ?_) (fun c7 => ?_)
      · have hf := (if_neg c7).symm.trans hf
        refine lv_aload_n hx hb dX11_lists_39 rfl (lv_at hl 1 rfl) ?_
        obtain ⟨a8, e, hf⟩ := ob hf
        refine q_getR e B hw fd_11_12.1 fd_11_12.2.1 fd_11_12.2.2.1 fd_11_12.2.2.2.1 fd_11_12.2.2.2.2 rfl tw_2_114 dX11_lists_40 ?_
        refine lv_aload_n hx hb dX11_lists_43 rfl (lv_at hl 1 rfl) ?_
        obtain ⟨a9, e, hf⟩ := ob hf
        refine q_getR e B hw fd_11_3.1 fd_11_3.2.1 fd_11_3.2.2.1 fd_11_3.2.2.2.1 fd_11_3.2.2.2.2 rfl tw_2_105 dX11_lists_44 ?_
        refine lv_aload_n hx hb dX11_lists_47 rfl (lv_at hl 1 rfl) ?_
        obtain ⟨a10, e, hf⟩ := ob hf
        refine q_getR e B hw fd_11_4.1 fd_11_4.2.1 fd_11_4.2.2.1 fd_11_4.2.2.2.1 fd_11_4.2.2.2.2 rfl tw_2_106 dX11_lists_48 ?_
        refine lv_iload_n hx hb dX11_lists_51 rfl (lv_at hl 3 rfl) ?_
        obtain ⟨h11, e, hf⟩ := ob hf
        refine q_callVN (As := [.ref a9, .ref a10, .int v2]) (rest := []) (st1 := []) (c_X10_about G e) B hw hM.hz hM.hc0 (k_X10_about e) (by decide) (ci := 10) rfl rfl my_X10_about mv_X10_about tw_4_153 ⟨Nat.le_of_ble_eq_true rfl, Nat.le_of_ble_eq_true rfl⟩ hM.hcs rfl hl.1 rfl rfl (Nat.le_of_ble_eq_true rfl) dX11_lists_52 (fun H locs hw => ?_)
        refine lv_aload_n hx hb dX11_lists_55 rfl (lv_at hl 1 rfl) ?_
        obtain ⟨a12, e, hf⟩ := ob hf
        refine q_getR e B hw fd_11_13.1 fd_11_13.2.1 fd_11_13.2.2.1 fd_11_13.2.2.2.1 fd_11_13.2.2.2.2 rfl tw_2_115 dX11_lists_56 ?_
        refine lv_aload_n hx hb dX11_lists_59 rfl (lv_at hl 0 rfl) ?_
        refine lv_iload_n hx hb dX11_lists_60 rfl (lv_at hl 3 rfl) ?_
        obtain ⟨⟨x13, h14, z15⟩, e, hf⟩ := ob hf
        obtain ⟨hg, hf⟩ := gd3_some hf
        refine q_callVNA (As := [.ref a2, .int v2]) (rest := []) (st1 := [.int x13]) (c_X1_listInto G e) (mo_X1_listInto e) hg B hw hM (k_X1_listInto e) (by decide) (ci := 1) rfl rfl my_X1_listInto mv_X1_listInto tw_6_12 ⟨Nat.le_of_ble_eq_true rfl, Nat.le_of_ble_eq_true rfl⟩ rfl hl.1 rfl rfl (Nat.le_of_ble_eq_true rfl) dX11_lists_61 (fun H locs hw hM => ?_)
        obtain ⟨rfl, rfl, rfl⟩ := so3 hf
        exact q_iret B hw hM.hz hM.hc0 hr hlk dX11_lists_64
      · have hf := (if_pos c7).symm.trans hf
        refine lv_bipush (v := 6) hx hb dX11_lists_33 (by decide) ?_
        obtain ⟨x16, e, hf⟩ := ob hf
        refine q_callS (As := [.int 6]) (rest := []) (st1 := [.int x16]) (c_X11_refused G e) B hw hM.hz hM.hc0 my_X11_refused mv_X11_refused tw_2_155 ⟨Nat.le_of_ble_eq_true rfl, Nat.le_of_ble_eq_true rfl⟩ hM.hcs rfl hl.1 rfl rfl (Nat.le_of_ble_eq_true rfl) dX11_lists_35 (fun H locs hw => ?_)
        obtain ⟨rfl, rfl, rfl⟩ := so3 hf
        exact q_iret B hw hM.hz hM.hc0 hr hlk dX11_lists_38
    · have hf := (if_pos c5).symm.trans hf
      exact w_X11_lists_21 G B hr hlk  z h _ _ _ hw hM (lv_sub hl [] rfl) hf
/-! SecondLife.fittingTalents(LSecondLife$Tray;II)I -/
def f_X11_fittingTalents_113 (n : Nat) (z : Sh) (k6 : Hp → Nat → Nat → Int32 → Int32 → Int32 → Int32 → Option (Int32 × Hp)) (h : Hp) (v0 : Nat) (v1 : Nat) (v2 : Int32) (v3 : Int32) (v4 : Int32) (v5 : Int32) : Option (Int32 × Hp) :=
  (some (v5 + 1)).bind fun x1 =>
  k6 h v0 v1 v2 v3 v4 x1
def f_X11_fittingTalents_43 (n : Nat) (z : Sh) (k6 : Hp → Nat → Nat → Int32 → Int32 → Int32 → Int32 → Option (Int32 × Hp)) : Nat → Hp → Nat → Nat → Int32 → Int32 → Int32 → Int32 → Int32 → Option (Int32 × Hp)
  | 0, _, _, _, _, _, _, _, _ => none
  | i + 1, h, v0, v1, v2, v3, v4, v5, v6 =>
    (gI z h 9 v1 3).bind fun x1 =>
    if x1 ≤ v6 then
      (gR z h 11 v0 5).bind fun a3 =>
      (f_X5_part z h a3 v2 2).bind fun x4 =>
      (gR z h 11 v0 4).bind fun a5 =>
      (f_X5_part z h a5 v2 2).bind fun x6 =>
      if (x4 - x6) = v3 then
        (some (v4 ||| ((1 : Int32) <<< (v5 &&& 31)))).bind fun x8 =>
        f_X11_fittingTalents_113 n z k6 h v0 v1 v2 v3 x8 v5
      else
        f_X11_fittingTalents_113 n z k6 h v0 v1 v2 v3 v4 v5
    else
      (gR z h 11 v0 11).bind fun a9 =>
      (gR z h 11 v0 3).bind fun a10 =>
      (gR z h 11 v0 5).bind fun a11 =>
      (f_X9_number z h v1 v6).bind fun x12 =>
      (f_X2_lives n z h a9 a10 a11 v2 x12).bind fun (x13, h14) =>
      (some (v6 + 1)).bind fun x15 =>
      (f_X11_fittingTalents_43 n z k6 i) h14 v0 v1 v2 v3 v4 v5 x15
def f_X11_fittingTalents_6 (n : Nat) (z : Sh) : Nat → Hp → Nat → Nat → Int32 → Int32 → Int32 → Int32 → Option (Int32 × Hp)
  | 0, _, _, _, _, _, _, _ => none
  | i + 1, h, v0, v1, v2, v3, v4, v5 =>
    if 10 ≤ v5 then
      some (v4, h)
    else
      (gR z h 11 v0 5).bind fun a2 =>
      (gR z h 11 v0 4).bind fun a3 =>
      (f_X5_copy z h a2 a3).bind fun h4 =>
      (gR z h4 11 v0 5).bind fun a5 =>
      (f_X5_put z h4 a5 v2 6 v5).bind fun h6 =>
      f_X11_fittingTalents_43 n z (f_X11_fittingTalents_6 n z i) n h6 v0 v1 v2 v3 v4 v5 0
def f_X11_fittingTalents (n : Nat) (z : Sh) (h : Hp) (v0 : Nat) (v1 : Nat) (v2 : Int32) (v3 : Int32) : Option (Int32 × Hp) :=
  if z.K v0 = 11 then
    f_X11_fittingTalents_6 n z n h v0 v1 v2 v3 0 0
  else none
theorem k_X11_fittingTalents {n : Nat} {z : Sh} {h : Hp} {v0 : Nat} {v1 : Nat} {v2 : Int32} {v3 : Int32} {w : Int32 × Hp} (hf : f_X11_fittingTalents n z h v0 v1 v2 v3 = some w) : z.K v0 = 11 := by
  unfold f_X11_fittingTalents at hf
  exact (if_some hf).1
set_option maxHeartbeats 4000000 in
theorem w_X11_fittingTalents_113 {p : Program} {l : Launch} {e : Env} {s : State} {m : MethodId} {args : Array Value} {below : List Frame} {meth : Method} {c : Code} {s0 : State} {E : Ev} {z : Sh} {n : Nat} {k6 : Hp → Nat → Nat → Int32 → Int32 → Int32 → Int32 → Option (Int32 × Hp)} {r : Int32} {h' : Hp} (G : Gl s0 E) (B : Bd p s0 s E m c cX11_fittingTalents 7 RX11) (hz : s0.heap.size ≤ z.sz) (hc0 : s.heap.size + 0 = z.sz) (hr : meth.sig.returnType = (some .int)) (hlk : meth.locks = false) (hk6 : ∀ (h : Hp) (v0 : Nat) (v1 : Nat) (v2 : Int32) (v3 : Int32) (v4 : Int32) (v5 : Int32) (H : Heap) (locs : List Loc) (ls : Array Slot), Pw s0 s E z h H locs → lv_has ls 7 [(0, .ref v0), (1, .ref v1), (2, .int v2), (3, .int v3), (4, .int v4), (5, .int v5)] → k6 h v0 v1 v2 v3 v4 v5 = some (r, h') → W p l e (rmO 4 99) s m args below meth c H locs 0 0 (Zt below s0 E z h' (some (.int r)) args s 0 0) (F0 m 6 ls [])) : ∀ (h : Hp) (v0 : Nat) (v1 : Nat) (v2 : Int32) (v3 : Int32) (v4 : Int32) (v5 : Int32) (H : Heap) (locs : List Loc) (ls : Array Slot), Pw s0 s E z h H locs → lv_has ls 7 [(0, .ref v0), (1, .ref v1), (2, .int v2), (3, .int v3), (4, .int v4), (5, .int v5)] → f_X11_fittingTalents_113 n z k6 h v0 v1 v2 v3 v4 v5 = some (r, h') → W p l e (rmO 4 99) s m args below meth c H locs 0 0 (Zt below s0 E z h' (some (.int r)) args s 0 0) (F0 m 113 ls []) := by
  have hx := B.1
  have hb := B.2.1
  intro h v0 v1 v2 v3 v4 v5 H locs ls hw hl hf
  unfold f_X11_fittingTalents_113 at hf
  obtain ⟨x1, e, hf⟩ := ob hf
  refine lv_iinc (v := x1) (lv' := [(5, .int x1), (0, .ref v0), (1, .ref v1), (2, .int v2), (3, .int v3), (4, .int v4)]) hx hb dX11_fittingTalents_113 hl (k := 5) rfl (Option.some.inj e) (by decide) rfl (fun ls hl => ?_)
  refine lv_goto (tgt := 6) hx hb dX11_fittingTalents_116 (by decide) ?_
  exact hk6 h v0 v1 v2 v3 v4 x1 _ _ _ hw (lv_sub hl [1, 2, 3, 4, 5, 0] rfl) hf
set_option maxHeartbeats 4000000 in
theorem w_X11_fittingTalents_43 {p : Program} {l : Launch} {e : Env} {s : State} {m : MethodId} {args : Array Value} {below : List Frame} {meth : Method} {c : Code} {s0 : State} {E : Ev} {z : Sh} {n : Nat} {k6 : Hp → Nat → Nat → Int32 → Int32 → Int32 → Int32 → Option (Int32 × Hp)} {r : Int32} {h' : Hp} (G : Gl s0 E) (B : Bd p s0 s E m c cX11_fittingTalents 7 RX11) (hz : s0.heap.size ≤ z.sz) (hc0 : s.heap.size + 0 = z.sz) (hr : meth.sig.returnType = (some .int)) (hlk : meth.locks = false) (hk6 : ∀ (h : Hp) (v0 : Nat) (v1 : Nat) (v2 : Int32) (v3 : Int32) (v4 : Int32) (v5 : Int32) (H : Heap) (locs : List Loc) (ls : Array Slot), Pw s0 s E z h H locs → lv_has ls 7 [(0, .ref v0), (1, .ref v1), (2, .int v2), (3, .int v3), (4, .int v4), (5, .int v5)] → k6 h v0 v1 v2 v3 v4 v5 = some (r, h') → W p l e (rmO 4 99) s m args below meth c H locs 0 0 (Zt below s0 E z h' (some (.int r)) args s 0 0) (F0 m 6 ls [])) : ∀ (i : Nat), ∀ (h : Hp) (v0 : Nat) (v1 : Nat) (v2 : Int32) (v3 : Int32) (v4 : Int32) (v5 : Int32) (v6 : Int32) (H : Heap) (locs : List Loc) (ls : Array Slot), Pw s0 s E z h H locs → lv_has ls 7 [(0, .ref v0), (1, .ref v1), (2, .int v2), (3, .int v3), (4, .int v4), (5, .int v5), (6, .int v6)] → f_X11_fittingTalents_43 n z k6 i h v0 v1 v2 v3 v4 v5 v6 = some (r, h') → W p l e (rmO 4 99) s m args below meth c H locs 0 0 (Zt below s0 E z h' (some (.int r)) args s 0 0) (F0 m 43 ls []) := by
  have hx := B.1
  have hb := B.2.1
  intro i
  induction i with
  | zero =>
    intro h v0 v1 v2 v3 v4 v5 v6 H locs ls hw hl hf
    have hf := (f_X11_fittingTalents_43.eq_1 ..).symm.trans hf
    cases hf
  | succ i ih =>
    intro h v0 v1 v2 v3 v4 v5 v6 H locs ls hw hl hf
    have hf := (f_X11_fittingTalents_43.eq_2 ..).symm.trans hf
    refine lv_iload hx hb dX11_fittingTalents_43 (lv_at hl 6 rfl) ?_
    refine lv_aload_n hx hb dX11_fittingTalents_45 rfl (lv_at hl 1 rfl) ?_
    obtain ⟨x1, e, hf⟩ := ob hf
    refine q_getIN e B hw fd_9_3.1 fd_9_3.2.1 fd_9_3.2.2.1 fd_9_3.2.2.2.1 fd_9_3.2.2.2.2 rfl tw_2_92 dX11_fittingTalents_46 ?_
    refine lv_icmp_ge (tgt := 81) hx hb dX11_fittingTalents_49 (by decide) (fun c2 => ?_) (fun c2 => ?_)
    · have hf := (if_pos c2).symm.trans hf
      refine lv_aload_n hx hb dX11_fittingTalents_81 rfl (lv_at hl 0 rfl) ?_
      obtain ⟨a3, e, hf⟩ := ob hf
      refine q_getR e B hw fd_11_5.1 fd_11_5.2.1 fd_11_5.2.2.1 fd_11_5.2.2.2.1 fd_11_5.2.2.2.2 rfl tw_2_107 dX11_fittingTalents_82 ?_
      refine lv_iload_n hx hb dX11_fittingTalents_85 rfl (lv_at hl 2 rfl) ?_
      refine lv_iconst (v := 2) hx hb dX11_fittingTalents_86 (by decide) ?_
      obtain ⟨x4, e, hf⟩ := ob hf
      refine q_callVN (As := [.int v2, .int 2]) (rest := []) (st1 := [.int x4]) (c_X5_part G e) B hw hz hc0 (k_X5_part e) (by decide) (ci := 5) rfl rfl my_X5_part mv_X5_part tw_3_214 ⟨Nat.le_of_ble_eq_true rfl, Nat.le_of_ble_eq_true rfl⟩ ⟨Nat.zero_le _, Nat.zero_le _⟩ rfl hl.1 rfl rfl (Nat.le_of_ble_eq_true rfl) dX11_fittingTalents_87 (fun H locs hw => ?_)
      refine lv_aload_n hx hb dX11_fittingTalents_90 rfl (lv_at hl 0 rfl) ?_
      obtain ⟨a5, e, hf⟩ := ob hf
      refine q_getR e B hw fd_11_4.1 fd_11_4.2.1 fd_11_4.2.2.1 fd_11_4.2.2.2.1 fd_11_4.2.2.2.2 rfl tw_2_106 dX11_fittingTalents_91 ?_
      refine lv_iload_n hx hb dX11_fittingTalents_94 rfl (lv_at hl 2 rfl) ?_
      refine lv_iconst (v := 2) hx hb dX11_fittingTalents_95 (by decide) ?_
      obtain ⟨x6, e, hf⟩ := ob hf
      refine q_callVN (As := [.int v2, .int 2]) (rest := [.int x4]) (st1 := [.int x6, .int x4]) (c_X5_part G e) B hw hz hc0 (k_X5_part e) (by decide) (ci := 5) rfl rfl my_X5_part mv_X5_part tw_3_214 ⟨Nat.le_of_ble_eq_true rfl, Nat.le_of_ble_eq_true rfl⟩ ⟨Nat.zero_le _, Nat.zero_le _⟩ rfl hl.1 rfl rfl (Nat.le_of_ble_eq_true rfl) dX11_fittingTalents_96 (fun H locs hw => ?_)
      refine lv_isub hx hb dX11_fittingTalents_99 ?_
      refine lv_iload_n hx hb dX11_fittingTalents_100 rfl (lv_at hl 3 rfl) ?_
      refine lv_icmp_ne (tgt := 113) hx hb dX11_fittingTalents_101 (by decide) (fun c7 => ?_) (fun c7 => ?_)
      · have hf := (if_neg c7).symm.trans hf
        exact w_X11_fittingTalents_113 G B hz hc0 hr hlk hk6 h v0 v1 v2 v3 v4 v5 _ _ _ hw (lv_sub hl [0, 1, 2, 3, 4, 5] rfl) hf
      · have hf := (if_pos c7).symm.trans hf
        refine lv_iload hx hb dX11_fittingTalents_104 (lv_at hl 4 rfl) ?_
        refine lv_iconst (v := 1) hx hb dX11_fittingTalents_106 (by decide) ?_
        refine lv_iload hx hb dX11_fittingTalents_107 (lv_at hl 5 rfl) ?_
        refine lv_ishl hx hb dX11_fittingTalents_109 ?_
        refine lv_ior hx hb dX11_fittingTalents_110 ?_
        obtain ⟨x8, e, hf⟩ := ob hf
        refine q_nmI e ?_
        refine lv_istore (lv' := [(4, .int x8), (0, .ref v0), (1, .ref v1), (2, .int v2), (3, .int v3), (5, .int v5), (6, .int v6)]) hx hb dX11_fittingTalents_111 hl (by decide) rfl (fun ls hl => ?_)
        exact w_X11_fittingTalents_113 G B hz hc0 hr hlk hk6 h v0 v1 v2 v3 x8 v5 _ _ _ hw (lv_sub hl [1, 2, 3, 4, 0, 5] rfl) hf
    · have hf := (if_neg c2).symm.trans hf
      refine lv_aload_n hx hb dX11_fittingTalents_52 rfl (lv_at hl 0 rfl) ?_
      obtain ⟨a9, e, hf⟩ := ob hf
      refine q_getR e B hw fd_11_11.1 fd_11_11.2.1 fd_11_11.2.2.1 fd_11_11.2.2.2.1 fd_11_11.2.2.2.2 rfl tw_2_113 dX11_fittingTalents_53 ?_
      refine lv_aload_n hx hb dX11_fittingTalents_56 rfl (lv_at hl 0 rfl) ?_
      obtain ⟨a10, e, hf⟩ := ob hf
      refine q_getR e B hw fd_11_3.1 fd_11_3.2.1 fd_11_3.2.2.1 fd_11_3.2.2.2.1 fd_11_3.2.2.2.2 rfl tw_2_105 dX11_fittingTalents_57 ?_
      refine lv_aload_n hx hb dX11_fittingTalents_60 rfl (lv_at hl 0 rfl) ?_
      obtain ⟨a11, e, hf⟩ := ob hf
      refine q_getR e B hw fd_11_5.1 fd_11_5.2.1 fd_11_5.2.2.1 fd_11_5.2.2.2.1 fd_11_5.2.2.2.2 rfl tw_2_107 dX11_fittingTalents_61 ?_
      refine lv_iload_n hx hb dX11_fittingTalents_64 rfl (lv_at hl 2 rfl) ?_
      refine lv_aload_n hx hb dX11_fittingTalents_65 rfl (lv_at hl 1 rfl) ?_
      refine lv_iload hx hb dX11_fittingTalents_66 (lv_at hl 6 rfl) ?_
      obtain ⟨x12, e, hf⟩ := ob hf
      refine q_callVN (As := [.int v6]) (rest := [.int v2, .ref a11, .ref a10, .ref a9]) (st1 := [.long x12, .int v2, .ref a11, .ref a10, .ref a9]) (c_X9_number G e) B hw hz hc0 (k_X9_number e) (by decide) (ci := 9) rfl rfl my_X9_number mv_X9_number tw_5_154 ⟨Nat.le_of_ble_eq_true rfl, Nat.le_of_ble_eq_true rfl⟩ ⟨Nat.zero_le _, Nat.zero_le _⟩ rfl hl.1 rfl rfl (Nat.le_of_ble_eq_true rfl) dX11_fittingTalents_68 (fun H locs hw => ?_)
      obtain ⟨⟨x13, h14⟩, e, hf⟩ := ob hf
      refine q_callVN (As := [.ref a10, .ref a11, .int v2, .long x12]) (rest := []) (st1 := [.int x13]) (c_X2_lives G e) B hw hz hc0 (k_X2_lives e) (by decide) (ci := 2) rfl rfl my_X2_lives mv_X2_lives tw_4_30 ⟨Nat.le_of_ble_eq_true rfl, Nat.le_of_ble_eq_true rfl⟩ ⟨Nat.zero_le _, Nat.zero_le _⟩ rfl hl.1 rfl rfl (Nat.le_of_ble_eq_true rfl) dX11_fittingTalents_71 (fun H locs hw => ?_)
      refine lv_pop hx hb dX11_fittingTalents_74 rfl ?_
      obtain ⟨x15, e, hf⟩ := ob hf
      refine lv_iinc (v := x15) (lv' := [(6, .int x15), (0, .ref v0), (1, .ref v1), (2, .int v2), (3, .int v3), (4, .int v4), (5, .int v5)]) hx hb dX11_fittingTalents_75 hl (k := 6) rfl (Option.some.inj e) (by decide) rfl (fun ls hl => ?_)
      refine lv_goto (tgt := 43) hx hb dX11_fittingTalents_78 (by decide) ?_
      exact ih h14 v0 v1 v2 v3 v4 v5 x15 _ _ _ hw (lv_sub hl [1, 2, 3, 4, 5, 6, 0] rfl) hf
set_option maxHeartbeats 4000000 in
theorem w_X11_fittingTalents_6 {p : Program} {l : Launch} {e : Env} {s : State} {m : MethodId} {args : Array Value} {below : List Frame} {meth : Method} {c : Code} {s0 : State} {E : Ev} {z : Sh} {n : Nat} {r : Int32} {h' : Hp} (G : Gl s0 E) (B : Bd p s0 s E m c cX11_fittingTalents 7 RX11) (hz : s0.heap.size ≤ z.sz) (hc0 : s.heap.size + 0 = z.sz) (hr : meth.sig.returnType = (some .int)) (hlk : meth.locks = false) : ∀ (i : Nat), ∀ (h : Hp) (v0 : Nat) (v1 : Nat) (v2 : Int32) (v3 : Int32) (v4 : Int32) (v5 : Int32) (H : Heap) (locs : List Loc) (ls : Array Slot), Pw s0 s E z h H locs → lv_has ls 7 [(0, .ref v0), (1, .ref v1), (2, .int v2), (3, .int v3), (4, .int v4), (5, .int v5)] → f_X11_fittingTalents_6 n z i h v0 v1 v2 v3 v4 v5 = some (r, h') → W p l e (rmO 4 99) s m args below meth c H locs 0 0 (Zt below s0 E z h' (some (.int r)) args s 0 0) (F0 m 6 ls []) := by
  have hx := B.1
  have hb := B.2.1
  intro i
  induction i with
  | zero =>
    intro h v0 v1 v2 v3 v4 v5 H locs ls hw hl hf
    have hf := (f_X11_fittingTalents_6.eq_1 ..).symm.trans hf
    cases hf
  | succ i ih =>
    intro h v0 v1 v2 v3 v4 v5 H locs ls hw hl hf
    have hf := (f_X11_fittingTalents_6.eq_2 ..).symm.trans hf
    refine lv_aload_n hx hb dX11_fittingTalents_6 rfl (lv_at hl 1 rfl) ?_
    refine lv_ifnull hx hb dX11_fittingTalents_7 ?_
    refine lv_iload hx hb dX11_fittingTalents_10 (lv_at hl 5 rfl) ?_
    refine lv_bipush (v := 10) hx hb dX11_fittingTalents_12 (by decide) ?_
    refine lv_icmp_ge (tgt := 119) hx hb dX11_fittingTalents_14 (by decide) (fun c1 => ?_) (fun c1 => ?_)
    · have hf := (if_pos c1).symm.trans hf
      refine lv_iload hx hb dX11_fittingTalents_119 (lv_at hl 4 rfl) ?_
      obtain ⟨rfl, rfl⟩ := so2 hf
      exact q_iret B hw hz hc0 hr hlk dX11_fittingTalents_121
    · have hf := (if_neg c1).symm.trans hf
      refine lv_aload_n hx hb dX11_fittingTalents_17 rfl (lv_at hl 0 rfl) ?_
      obtain ⟨a2, e, hf⟩ := ob hf
      refine q_getR e B hw fd_11_5.1 fd_11_5.2.1 fd_11_5.2.2.1 fd_11_5.2.2.2.1 fd_11_5.2.2.2.2 rfl tw_2_107 dX11_fittingTalents_18 ?_
      refine lv_aload_n hx hb dX11_fittingTalents_21 rfl (lv_at hl 0 rfl) ?_
      obtain ⟨a3, e, hf⟩ := ob hf
      refine q_getR e B hw fd_11_4.1 fd_11_4.2.1 fd_11_4.2.2.1 fd_11_4.2.2.2.1 fd_11_4.2.2.2.2 rfl tw_2_106 dX11_fittingTalents_22 ?_
      obtain ⟨h4, e, hf⟩ := ob hf
      refine q_callVN (As := [.ref a3]) (rest := []) (st1 := []) (c_X5_copy G e) B hw hz hc0 (k_X5_copy e) (by decide) (ci := 5) rfl rfl my_X5_copy mv_X5_copy tw_4_25 ⟨Nat.le_of_ble_eq_true rfl, Nat.le_of_ble_eq_true rfl⟩ ⟨Nat.zero_le _, Nat.zero_le _⟩ rfl hl.1 rfl rfl (Nat.le_of_ble_eq_true rfl) dX11_fittingTalents_25 (fun H locs hw => ?_)
      refine lv_aload_n hx hb dX11_fittingTalents_28 rfl (lv_at hl 0 rfl) ?_
      obtain ⟨a5, e, hf⟩ := ob hf
      refine q_getR e B hw fd_11_5.1 fd_11_5.2.1 fd_11_5.2.2.1 fd_11_5.2.2.2.1 fd_11_5.2.2.2.2 rfl tw_2_107 dX11_fittingTalents_29 ?_
      refine lv_iload_n hx hb dX11_fittingTalents_32 rfl (lv_at hl 2 rfl) ?_
      refine lv_bipush (v := 6) hx hb dX11_fittingTalents_33 (by decide) ?_
      refine lv_iload hx hb dX11_fittingTalents_35 (lv_at hl 5 rfl) ?_
      obtain ⟨h6, e, hf⟩ := ob hf
      refine q_callVN (As := [.int v2, .int 6, .int v5]) (rest := []) (st1 := []) (c_X5_put G e) B hw hz hc0 (k_X5_put e) (by decide) (ci := 5) rfl rfl my_X5_put mv_X5_put tw_4_75 ⟨Nat.le_of_ble_eq_true rfl, Nat.le_of_ble_eq_true rfl⟩ ⟨Nat.zero_le _, Nat.zero_le _⟩ rfl hl.1 rfl rfl (Nat.le_of_ble_eq_true rfl) dX11_fittingTalents_37 (fun H locs hw => ?_)
      refine lv_iconst (v := 0) hx hb dX11_fittingTalents_40 (by decide) ?_
      refine lv_istore (lv' := [(6, .int 0), (0, .ref v0), (1, .ref v1), (2, .int v2), (3, .int v3), (4, .int v4), (5, .int v5)]) hx hb dX11_fittingTalents_41 hl (by decide) rfl (fun ls hl => ?_)
      exact w_X11_fittingTalents_43 G B hz hc0 hr hlk ih n h6 v0 v1 v2 v3 v4 v5 0 _ _ _ hw (lv_sub hl [1, 2, 3, 4, 5, 6, 0] rfl) hf
set_option maxHeartbeats 4000000 in
theorem c_X11_fittingTalents {l : Launch} {s0 : State} {E : Ev} (G : Gl s0 E) {n : Nat} {z : Sh} {h : Hp} {v0 : Nat} {v1 : Nat} {v2 : Int32} {v3 : Int32} {r : Int32} {h' : Hp} (hf : f_X11_fittingTalents n z h v0 v1 v2 v3 = some (r, h')) : Ct l s0 E yX11_fittingTalents cX11_fittingTalents 7 (some .int) 4 99 [.ref v0, .ref v1, .int v2, .int v3] z h h' (some (.int r)) := by
  refine Ct.of G (by decide) (Nat.le_of_ble_eq_true rfl) ?_
  intro p e s m below meth c ls B hw hz hc0 hr hlk hl
  have B : Bd p s0 s E m c cX11_fittingTalents 7 RX11 := B
  have hx := B.1
  have hb := B.2.1
  have hl : lv_has ls 7 [(0, .ref v0), (1, .ref v1), (2, .int v2), (3, .int v3)] := hl
  unfold f_X11_fittingTalents at hf
  obtain ⟨_, hf⟩ := if_some hf
  refine lv_iconst (v := 0) hx hb dX11_fittingTalents_0 (by decide) ?_
  refine lv_istore (lv' := [(4, .int 0), (0, .ref v0), (1, .ref v1), (2, .int v2), (3, .int v3)]) hx hb dX11_fittingTalents_1 hl (by decide) rfl (fun ls hl => ?_)
  refine lv_iconst (v := 0) hx hb dX11_fittingTalents_3 (by decide) ?_
  refine lv_istore (lv' := [(5, .int 0), (4, .int 0), (0, .ref v0), (1, .ref v1), (2, .int v2), (3, .int v3)]) hx hb dX11_fittingTalents_4 hl (by decide) rfl (fun ls hl => ?_)
  exact w_X11_fittingTalents_6 G B hz hc0 hr hlk  n h v0 v1 v2 v3 0 0 _ _ _ hw (lv_sub hl [2, 3, 4, 5, 1, 0] rfl) hf
/-! SecondLife$Chances.hopeNow(I)J -/
def f_X0_hopeNow (n : Nat) (z : Sh) (h : Hp) (v0 : Nat) (v1 : Int32) : Option (Int64 × Hp × Sh) :=
  if z.K v0 = 0 then
    gd3 z <|
    (gR z h 0 v0 1).bind fun a1 =>
    (gR z h 0 v0 0).bind fun a2 =>
    (gI z h 10 a2 8).bind fun x3 =>
    (f_X1_bestFrom n z h a1 x3).bind fun (x4, h5, z6) =>
    gd3 z6 <|
    (gR z6 h5 0 v0 0).bind fun a7 =>
    (gI z6 h5 10 a7 8).bind fun x8 =>
    (f_X0_hopeFrom n z6 h5 v0 x8 v1).bind fun (x9, h10, z11) =>
    gd3 z11 <|
    some (x9, h10, z11)
  else none
theorem k_X0_hopeNow {n : Nat} {z : Sh} {h : Hp} {v0 : Nat} {v1 : Int32} {w : Int64 × Hp × Sh} (hf : f_X0_hopeNow n z h v0 v1 = some w) : z.K v0 = 0 := by
  unfold f_X0_hopeNow at hf
  exact (if_some hf).1
theorem mo_X0_hopeNow {n : Nat} {z : Sh} {h : Hp} {v0 : Nat} {v1 : Int32} {r : Int64} {h' : Hp} {zE : Sh} (hf : f_X0_hopeNow n z h v0 v1 = some (r, h', zE)) : z.sz ≤ zE.sz ∧ z.sl ≤ zE.sl := by
  unfold f_X0_hopeNow at hf
  exact (gd3_some (if_some hf).2).1
set_option maxHeartbeats 4000000 in
theorem c_X0_hopeNow {l : Launch} {s0 : State} {E : Ev} (G : Gl s0 E) {n : Nat} {z : Sh} {h : Hp} {v0 : Nat} {v1 : Int32} {r : Int64} {h' : Hp} {zE : Sh} (hf : f_X0_hopeNow n z h v0 v1 = some (r, h', zE)) : Ca l s0 E yX0_hopeNow cX0_hopeNow 2 (some .long) 66 3727 [.ref v0, .int v1] z zE h h' (some (.long r)) := by
  refine Ca.of G (by decide +kernel) (Nat.le_of_ble_eq_true rfl) (mo_X0_hopeNow hf) ?_
  intro p e s m below meth c ls B hw hM hr hlk hnm0 hl
  have B : Bd p s0 s E m c cX0_hopeNow 2 RX0 := B
  have hx := B.1
  have hb := B.2.1
  have hl : lv_has ls 2 [(0, .ref v0), (1, .int v1)] := hl
  unfold f_X0_hopeNow at hf
  obtain ⟨_, hf⟩ := if_some hf
  obtain ⟨_, hf⟩ := gd3_some hf
  refine lv_aload_n hx hb dX0_hopeNow_0 rfl (lv_at hl 0 rfl) ?_
  obtain ⟨a1, e, hf⟩ := ob hf
  refine q_getR e B hw fd_0_1.1 fd_0_1.2.1 fd_0_1.2.2.1 fd_0_1.2.2.2.1 fd_0_1.2.2.2.2 rfl tw_2_65 dX0_hopeNow_1 ?_
  refine lv_aload_n hx hb dX0_hopeNow_4 rfl (lv_at hl 0 rfl) ?_
  obtain ⟨a2, e, hf⟩ := ob hf
  refine q_getR e B hw fd_0_0.1 fd_0_0.2.1 fd_0_0.2.2.1 fd_0_0.2.2.2.1 fd_0_0.2.2.2.2 rfl tw_2_64 dX0_hopeNow_5 ?_
  obtain ⟨x3, e, hf⟩ := ob hf
  refine q_getIN e B hw fd_10_8.1 fd_10_8.2.1 fd_10_8.2.2.1 fd_10_8.2.2.2.1 fd_10_8.2.2.2.2 rfl tw_2_1 dX0_hopeNow_8 ?_
  obtain ⟨⟨x4, h5, z6⟩, e, hf⟩ := ob hf
  obtain ⟨hg, hf⟩ := gd3_some hf
  refine q_callVNA (As := [.int x3]) (rest := []) (st1 := [.long x4]) (c_X1_bestFrom G e) (mo_X1_bestFrom e) hg B hw hM (k_X1_bestFrom e) (by decide) (ci := 1) rfl rfl my_X1_bestFrom mv_X1_bestFrom tw_5_111 ⟨Nat.le_of_ble_eq_true rfl, Nat.le_of_ble_eq_true rfl⟩ rfl hl.1 rfl rfl (Nat.le_of_ble_eq_true rfl) dX0_hopeNow_11 (fun H locs hw hM => ?_)
  refine lv_pop2_2 hx hb dX0_hopeNow_14 rfl ?_
  refine lv_aload_n hx hb dX0_hopeNow_15 rfl (lv_at hl 0 rfl) ?_
  refine lv_aload_n hx hb dX0_hopeNow_16 rfl (lv_at hl 0 rfl) ?_
  obtain ⟨a7, e, hf⟩ := ob hf
  refine q_getR e B hw fd_0_0.1 fd_0_0.2.1 fd_0_0.2.2.1 fd_0_0.2.2.2.1 fd_0_0.2.2.2.2 rfl tw_2_64 dX0_hopeNow_17 ?_
  obtain ⟨x8, e, hf⟩ := ob hf
  refine q_getIN e B hw fd_10_8.1 fd_10_8.2.1 fd_10_8.2.2.1 fd_10_8.2.2.2.1 fd_10_8.2.2.2.2 rfl tw_2_1 dX0_hopeNow_20 ?_
  refine lv_iload_n hx hb dX0_hopeNow_23 rfl (lv_at hl 1 rfl) ?_
  obtain ⟨⟨x9, h10, z11⟩, e, hf⟩ := ob hf
  obtain ⟨hg, hf⟩ := gd3_some hf
  refine q_callVA (As := [.int x8, .int v1]) (rest := []) (st1 := [.long x9]) (c_X0_hopeFrom G e) (mo_X0_hopeFrom e) hg B hw hM (k_X0_hopeFrom e) (by decide) (ci := 0) rfl rfl my_X0_hopeFrom mv_X0_hopeFrom tw_5_112 ⟨Nat.le_of_ble_eq_true rfl, Nat.le_of_ble_eq_true rfl⟩ rfl hl.1 rfl rfl (Nat.le_of_ble_eq_true rfl) dX0_hopeNow_24 (fun H locs hw hM => ?_)
  obtain ⟨rfl, rfl, rfl⟩ := so3 hf
  exact q_lret B hw hM.hz hM.hc0 hr hlk dX0_hopeNow_27
/-! SecondLife$Chances.hopeDoing(I)I -/
def f_X0_hopeDoing_39 (n : Nat)  : Nat → Sh → Hp → Nat → Int32 → Int32 → Int64 → Int32 → Int32 → Option (Int32 × Hp × Sh)
  | 0, _, _, _, _, _, _, _, _ => none
  | i + 1, z, h, v0, v1, v2, v3, v5, v6 =>
    if v5 ≤ v6 then
      some ((9 : Int32), h, z)
    else
      (f_X0_hopeByYear n z h v0 v2 v1 v6).bind fun (x2, h3, z4) =>
      gd3 z4 <|
      if (lg_cmp x2 v3) = 0 then
        some (v6, h3, z4)
      else
        (some (v6 + 1)).bind fun x6 =>
        (f_X0_hopeDoing_39 n i) z4 h3 v0 v1 v2 v3 v5 x6
def f_X0_hopeDoing (n : Nat) (z : Sh) (h : Hp) (v0 : Nat) (v1 : Int32) : Option (Int32 × Hp × Sh) :=
  if z.K v0 = 0 then
    gd3 z <|
    (gR z h 0 v0 0).bind fun a1 =>
    (gI z h 10 a1 8).bind fun x2 =>
    (f_X0_hopeNow n z h v0 v1).bind fun (x3, h4, z5) =>
    gd3 z5 <|
    if v1 ≤ 0 then
      some (((-1) : Int32), h4, z5)
    else
      if (lg_cmp x3 0) = 0 then
        some (((-1) : Int32), h4, z5)
      else
        (gR z5 h4 0 v0 0).bind fun a8 =>
        (f_X10_openTrades z5 h4 a8 x2).bind fun x9 =>
        f_X0_hopeDoing_39 n n z5 h4 v0 v1 x2 x3 x9 0
  else none
theorem k_X0_hopeDoing {n : Nat} {z : Sh} {h : Hp} {v0 : Nat} {v1 : Int32} {w : Int32 × Hp × Sh} (hf : f_X0_hopeDoing n z h v0 v1 = some w) : z.K v0 = 0 := by
  unfold f_X0_hopeDoing at hf
  exact (if_some hf).1
theorem mo_X0_hopeDoing {n : Nat} {z : Sh} {h : Hp} {v0 : Nat} {v1 : Int32} {r : Int32} {h' : Hp} {zE : Sh} (hf : f_X0_hopeDoing n z h v0 v1 = some (r, h', zE)) : z.sz ≤ zE.sz ∧ z.sl ≤ zE.sl := by
  unfold f_X0_hopeDoing at hf
  exact (gd3_some (if_some hf).2).1
set_option maxHeartbeats 4000000 in
theorem w_X0_hopeDoing_39 {p : Program} {l : Launch} {e : Env} {s : State} {m : MethodId} {args : Array Value} {below : List Frame} {meth : Method} {c : Code} {s0 : State} {E : Ev} {z0 : Sh} {n : Nat} {r : Int32} {h' : Hp} {zE : Sh} (G : Gl s0 E) (B : Bd p s0 s E m c cX0_hopeDoing 7 RX0) (hr : meth.sig.returnType = (some .int)) (hlk : meth.locks = false) : ∀ (i : Nat), ∀ (z : Sh) (h : Hp) (v0 : Nat) (v1 : Int32) (v2 : Int32) (v3 : Int64) (v5 : Int32) (v6 : Int32) (H : Heap) (locs : List Loc) (ls : Array Slot), Pw s0 s E z h H locs → Mo s0 s z0 z zE → lv_has ls 7 [(0, .ref v0), (1, .int v1), (2, .int v2), (3, .long v3), (5, .int v5), (6, .int v6)] → f_X0_hopeDoing_39 n i z h v0 v1 v2 v3 v5 v6 = some (r, h', zE) → W p l e (rmA 67 3748 z0 zE) s m args below meth c H locs (z.sz - z0.sz) (z.sl - z0.sl) (Zt below s0 E zE h' (some (.int r)) args s (zE.sz - z0.sz) (zE.sl - z0.sl)) (F0 m 39 ls []) := by
  have hx := B.1
  have hb := B.2.1
  intro i
  induction i with
  | zero =>
    intro z h v0 v1 v2 v3 v5 v6 H locs ls hw hM hl hf
    have hf := (f_X0_hopeDoing_39.eq_1 ..).symm.trans hf
    cases hf
  | succ i ih =>
    intro z h v0 v1 v2 v3 v5 v6 H locs ls hw hM hl hf
    have hf := (f_X0_hopeDoing_39.eq_2 ..).symm.trans hf
    refine lv_iload hx hb dX0_hopeDoing_39 (lv_at hl 5 rfl) ?_
    refine lv_iload hx hb dX0_hopeDoing_41 (lv_at hl 4 rfl) ?_
    refine lv_icmp_ge (tgt := 68) hx hb dX0_hopeDoing_43 (by decide) (fun c1 => ?_) (fun c1 => ?_)
    · have hf := (if_pos c1).symm.trans hf
      refine lv_bipush (v := 9) hx hb dX0_hopeDoing_68 (by decide) ?_
      obtain ⟨rfl, rfl, rfl⟩ := so3 hf
      exact q_iret B hw hM.hz hM.hc0 hr hlk dX0_hopeDoing_70
    · have hf := (if_neg c1).symm.trans hf
      refine lv_aload_n hx hb dX0_hopeDoing_46 rfl (lv_at hl 0 rfl) ?_
      refine lv_iload_n hx hb dX0_hopeDoing_47 rfl (lv_at hl 2 rfl) ?_
      refine lv_iload_n hx hb dX0_hopeDoing_48 rfl (lv_at hl 1 rfl) ?_
      refine lv_iload hx hb dX0_hopeDoing_49 (lv_at hl 5 rfl) ?_
      obtain ⟨⟨x2, h3, z4⟩, e, hf⟩ := ob hf
      obtain ⟨hg, hf⟩ := gd3_some hf
      refine q_callVA (As := [.int v2, .int v1, .int v6]) (rest := []) (st1 := [.long x2]) (c_X0_hopeByYear G e) (mo_X0_hopeByYear e) hg B hw hM (k_X0_hopeByYear e) (by decide) (ci := 0) rfl rfl my_X0_hopeByYear mv_X0_hopeByYear tw_5_133 ⟨Nat.le_of_ble_eq_true rfl, Nat.le_of_ble_eq_true rfl⟩ rfl hl.1 rfl rfl (Nat.le_of_ble_eq_true rfl) dX0_hopeDoing_51 (fun H locs hw hM => ?_)
      refine lv_lload_n hx hb dX0_hopeDoing_54 rfl (lv_at hl 3 rfl) ?_
      refine W.lcmp hx hb dX0_hopeDoing_55 ?_
      refine lv_if_ne (tgt := 62) hx hb dX0_hopeDoing_56 (by decide) (fun c5 => ?_) (fun c5 => ?_)
      · have hf := (if_neg c5).symm.trans hf
        obtain ⟨x6, e, hf⟩ := ob hf
        refine lv_iinc (v := x6) (lv' := [(6, .int x6), (0, .ref v0), (1, .int v1), (2, .int v2), (3, .long v3), (5, .int v5)]) hx hb dX0_hopeDoing_62 hl (k := 5) rfl (Option.some.inj e) (by decide) rfl (fun ls hl => ?_)
        refine lv_goto (tgt := 39) hx hb dX0_hopeDoing_65 (by decide) ?_
        exact ih z4 h3 v0 v1 v2 v3 v5 x6 _ _ _ hw hM (lv_sub hl [1, 2, 3, 4, 5, 0] rfl) hf
      · have hf := (if_pos c5).symm.trans hf
        refine lv_iload hx hb dX0_hopeDoing_59 (lv_at hl 5 rfl) ?_
        obtain ⟨rfl, rfl, rfl⟩ := so3 hf
        exact q_iret B hw hM.hz hM.hc0 hr hlk dX0_hopeDoing_61
set_option maxHeartbeats 4000000 in
theorem c_X0_hopeDoing {l : Launch} {s0 : State} {E : Ev} (G : Gl s0 E) {n : Nat} {z : Sh} {h : Hp} {v0 : Nat} {v1 : Int32} {r : Int32} {h' : Hp} {zE : Sh} (hf : f_X0_hopeDoing n z h v0 v1 = some (r, h', zE)) : Ca l s0 E yX0_hopeDoing cX0_hopeDoing 7 (some .int) 67 3748 [.ref v0, .int v1] z zE h h' (some (.int r)) := by
  refine Ca.of G (by decide +kernel) (Nat.le_of_ble_eq_true rfl) (mo_X0_hopeDoing hf) ?_
  intro p e s m below meth c ls B hw hM hr hlk hnm0 hl
  have B : Bd p s0 s E m c cX0_hopeDoing 7 RX0 := B
  have hx := B.1
  have hb := B.2.1
  have hl : lv_has ls 7 [(0, .ref v0), (1, .int v1)] := hl
  unfold f_X0_hopeDoing at hf
  obtain ⟨_, hf⟩ := if_some hf
  obtain ⟨_, hf⟩ := gd3_some hf
  refine lv_aload_n hx hb dX0_hopeDoing_0 rfl (lv_at hl 0 rfl) ?_
  obtain ⟨a1, e, hf⟩ := ob hf
  refine q_getR e B hw fd_0_0.1 fd_0_0.2.1 fd_0_0.2.2.1 fd_0_0.2.2.2.1 fd_0_0.2.2.2.2 rfl tw_2_64 dX0_hopeDoing_1 ?_
  obtain ⟨x2, e, hf⟩ := ob hf
  refine q_getIN e B hw fd_10_8.1 fd_10_8.2.1 fd_10_8.2.2.1 fd_10_8.2.2.2.1 fd_10_8.2.2.2.2 rfl tw_2_1 dX0_hopeDoing_4 ?_
  refine lv_istore_n (lv' := [(2, .int x2), (0, .ref v0), (1, .int v1)]) hx hb dX0_hopeDoing_7 rfl hl (by decide) rfl (fun ls hl => ?_)
  refine lv_aload_n hx hb dX0_hopeDoing_8 rfl (lv_at hl 1 rfl) ?_
  refine lv_iload_n hx hb dX0_hopeDoing_9 rfl (lv_at hl 2 rfl) ?_
  obtain ⟨⟨x3, h4, z5⟩, e, hf⟩ := ob hf
  obtain ⟨hg, hf⟩ := gd3_some hf
  refine q_callVA (As := [.int v1]) (rest := []) (st1 := [.long x3]) (c_X0_hopeNow G e) (mo_X0_hopeNow e) hg B hw hM (k_X0_hopeNow e) (by decide) (ci := 0) rfl rfl my_X0_hopeNow mv_X0_hopeNow tw_5_145 ⟨Nat.le_of_ble_eq_true rfl, Nat.le_of_ble_eq_true rfl⟩ rfl hl.1 rfl rfl (Nat.le_of_ble_eq_true rfl) dX0_hopeDoing_10 (fun H locs hw hM => ?_)
  refine lv_lstore_n (lv' := [(3, .long x3), (2, .int x2), (0, .ref v0), (1, .int v1)]) hx hb dX0_hopeDoing_13 rfl hl (by decide) rfl (fun ls hl => ?_)
  refine lv_iload_n hx hb dX0_hopeDoing_14 rfl (lv_at hl 3 rfl) ?_
  refine lv_if_le (tgt := 24) hx hb dX0_hopeDoing_15 (by decide) (fun c6 => ?_) (fun c6 => ?_)
  · have hf := (if_pos c6).symm.trans hf
    refine lv_iconst (v := (-1)) hx hb dX0_hopeDoing_24 (by decide) ?_
    obtain ⟨rfl, rfl, rfl⟩ := so3 hf
    exact q_iret B hw hM.hz hM.hc0 hr hlk dX0_hopeDoing_25
  · have hf := (if_neg c6).symm.trans hf
    refine lv_lload_n hx hb dX0_hopeDoing_18 rfl (lv_at hl 0 rfl) ?_
    refine lv_lconst (v := 0) hx hb dX0_hopeDoing_19 (by decide) ?_
    refine W.lcmp hx hb dX0_hopeDoing_20 ?_
    refine lv_if_ne (tgt := 26) hx hb dX0_hopeDoing_21 (by decide) (fun c7 => ?_) (fun c7 => ?_)
    · have hf := (if_neg c7).symm.trans hf
      refine lv_aload_n hx hb dX0_hopeDoing_26 rfl (lv_at hl 2 rfl) ?_
      obtain ⟨a8, e, hf⟩ := ob hf
      refine q_getR e B hw fd_0_0.1 fd_0_0.2.1 fd_0_0.2.2.1 fd_0_0.2.2.2.1 fd_0_0.2.2.2.2 rfl tw_2_64 dX0_hopeDoing_27 ?_
      refine lv_iload_n hx hb dX0_hopeDoing_30 rfl (lv_at hl 1 rfl) ?_
      obtain ⟨x9, e, hf⟩ := ob hf
      refine q_callVN (As := [.int x2]) (rest := []) (st1 := [.int x9]) (c_X10_openTrades G e) B hw hM.hz hM.hc0 (k_X10_openTrades e) (by decide) (ci := 10) rfl rfl my_X10_openTrades mv_X10_openTrades tw_5_69 ⟨Nat.le_of_ble_eq_true rfl, Nat.le_of_ble_eq_true rfl⟩ hM.hcs rfl hl.1 rfl rfl (Nat.le_of_ble_eq_true rfl) dX0_hopeDoing_31 (fun H locs hw => ?_)
      refine lv_istore (lv' := [(5, .int x9), (3, .long x3), (2, .int x2), (0, .ref v0), (1, .int v1)]) hx hb dX0_hopeDoing_34 hl (by decide) rfl (fun ls hl => ?_)
      refine lv_iconst (v := 0) hx hb dX0_hopeDoing_36 (by decide) ?_
      refine lv_istore (lv' := [(6, .int 0), (5, .int x9), (3, .long x3), (2, .int x2), (0, .ref v0), (1, .int v1)]) hx hb dX0_hopeDoing_37 hl (by decide) rfl (fun ls hl => ?_)
      exact w_X0_hopeDoing_39 G B hr hlk  n z5 h4 v0 v1 x2 x3 x9 0 _ _ _ hw hM (lv_sub hl [4, 5, 3, 2, 1, 0] rfl) hf
    · have hf := (if_pos c7).symm.trans hf
      refine lv_iconst (v := (-1)) hx hb dX0_hopeDoing_24 (by decide) ?_
      obtain ⟨rfl, rfl, rfl⟩ := so3 hf
      exact q_iret B hw hM.hz hM.hc0 hr hlk dX0_hopeDoing_25
/-! SecondLife$Courses.mostFrom(I)I -/
def f_X1_mostFrom (n : Nat) (z : Sh) (h : Hp) (v0 : Nat) (v1 : Int32) : Option (Int32 × Hp × Sh) :=
  if z.K v0 = 1 then
    gd3 z <|
    (f_X1_bestFrom n z h v0 v1).bind fun (x1, h2, z3) =>
    gd3 z3 <|
    (f_X1_scoreIn z3 h2 x1).bind fun x4 =>
    (dvI ((x4 + 16) - 1) 16).bind fun x5 =>
    some (x5, h2, z3)
  else none
theorem k_X1_mostFrom {n : Nat} {z : Sh} {h : Hp} {v0 : Nat} {v1 : Int32} {w : Int32 × Hp × Sh} (hf : f_X1_mostFrom n z h v0 v1 = some w) : z.K v0 = 1 := by
  unfold f_X1_mostFrom at hf
  exact (if_some hf).1
theorem mo_X1_mostFrom {n : Nat} {z : Sh} {h : Hp} {v0 : Nat} {v1 : Int32} {r : Int32} {h' : Hp} {zE : Sh} (hf : f_X1_mostFrom n z h v0 v1 = some (r, h', zE)) : z.sz ≤ zE.sz ∧ z.sl ≤ zE.sl := by
  unfold f_X1_mostFrom at hf
  exact (gd3_some (if_some hf).2).1
set_option maxHeartbeats 4000000 in
theorem c_X1_mostFrom {l : Launch} {s0 : State} {E : Ev} (G : Gl s0 E) {n : Nat} {z : Sh} {h : Hp} {v0 : Nat} {v1 : Int32} {r : Int32} {h' : Hp} {zE : Sh} (hf : f_X1_mostFrom n z h v0 v1 = some (r, h', zE)) : Ca l s0 E yX1_mostFrom cX1_mostFrom 2 (some .int) 26 1327 [.ref v0, .int v1] z zE h h' (some (.int r)) := by
  refine Ca.of G (by decide +kernel) (Nat.le_of_ble_eq_true rfl) (mo_X1_mostFrom hf) ?_
  intro p e s m below meth c ls B hw hM hr hlk hnm0 hl
  have B : Bd p s0 s E m c cX1_mostFrom 2 RX1 := B
  have hx := B.1
  have hb := B.2.1
  have hl : lv_has ls 2 [(0, .ref v0), (1, .int v1)] := hl
  unfold f_X1_mostFrom at hf
  obtain ⟨_, hf⟩ := if_some hf
  obtain ⟨_, hf⟩ := gd3_some hf
  refine lv_aload_n hx hb dX1_mostFrom_0 rfl (lv_at hl 0 rfl) ?_
  refine lv_iload_n hx hb dX1_mostFrom_1 rfl (lv_at hl 1 rfl) ?_
  obtain ⟨⟨x1, h2, z3⟩, e, hf⟩ := ob hf
  obtain ⟨hg, hf⟩ := gd3_some hf
  refine q_callVA (As := [.int v1]) (rest := []) (st1 := [.long x1]) (c_X1_bestFrom G e) (mo_X1_bestFrom e) hg B hw hM (k_X1_bestFrom e) (by decide) (ci := 1) rfl rfl my_X1_bestFrom mv_X1_bestFrom tw_4_166 ⟨Nat.le_of_ble_eq_true rfl, Nat.le_of_ble_eq_true rfl⟩ rfl hl.1 rfl rfl (Nat.le_of_ble_eq_true rfl) dX1_mostFrom_2 (fun H locs hw hM => ?_)
  obtain ⟨x4, e, hf⟩ := ob hf
  refine q_callS (As := [.long x1]) (rest := []) (st1 := [.int x4]) (c_X1_scoreIn G e) B hw hM.hz hM.hc0 my_X1_scoreIn mv_X1_scoreIn tw_4_196 ⟨Nat.le_of_ble_eq_true rfl, Nat.le_of_ble_eq_true rfl⟩ hM.hcs rfl hl.1 rfl rfl (Nat.le_of_ble_eq_true rfl) dX1_mostFrom_5 (fun H locs hw => ?_)
  refine lv_bipush (v := 16) hx hb dX1_mostFrom_8 (by decide) ?_
  refine lv_iadd hx hb dX1_mostFrom_10 ?_
  refine lv_iconst (v := 1) hx hb dX1_mostFrom_11 (by decide) ?_
  refine lv_isub hx hb dX1_mostFrom_12 ?_
  refine lv_bipush (v := 16) hx hb dX1_mostFrom_13 (by decide) ?_
  obtain ⟨x5, e, hf⟩ := ob hf
  refine q_idiv e hx hb dX1_mostFrom_15 ?_
  obtain ⟨rfl, rfl, rfl⟩ := so3 hf
  exact q_iret B hw hM.hz hM.hc0 hr hlk dX1_mostFrom_16
/-! SecondLife$Deeds.doSeason(LSecondLife$Town;LSecondLife$People;II)I -/
def f_X2_doSeason_34 (n : Nat) (z : Sh) (k11 : Hp → Nat → Nat → Nat → Int32 → Int32 → Int32 → Option (Int32 × Hp)) (h : Hp) (v0 : Nat) (v1 : Nat) (v2 : Nat) (v4 : Int32) (v6 : Int32) (u0 : Int32) (u1 : Int32) : Option (Int32 × Hp) :=
  (some (u1 + u0)).bind fun x1 =>
  (some (v6 + 1)).bind fun x2 =>
  k11 h v0 v1 v2 v4 x1 x2
def f_X2_doSeason_11 (n : Nat) (z : Sh) : Nat → Hp → Nat → Nat → Nat → Int32 → Int32 → Int32 → Option (Int32 × Hp)
  | 0, _, _, _, _, _, _, _ => none
  | i + 1, h, v0, v1, v2, v4, v5, v6 =>
    if v4 ≤ v6 then
      some (v5, h)
    else
      (f_X2_doDrawn n z h v0 v1 v2).bind fun (x2, h3) =>
      if x2 = 0 then
        f_X2_doSeason_34 n z (f_X2_doSeason_11 n z i) h3 v0 v1 v2 v4 v6 1 v5
      else
        f_X2_doSeason_34 n z (f_X2_doSeason_11 n z i) h3 v0 v1 v2 v4 v6 0 v5
def f_X2_doSeason (n : Nat) (z : Sh) (h : Hp) (v0 : Nat) (v1 : Nat) (v2 : Nat) (v3 : Int32) (v4 : Int32) : Option (Int32 × Hp) :=
  if z.K v0 = 2 then
    (pI z h 2 v0 2 v3).bind fun h1 =>
    f_X2_doSeason_11 n z n h1 v0 v1 v2 v4 0 0
  else none
theorem k_X2_doSeason {n : Nat} {z : Sh} {h : Hp} {v0 : Nat} {v1 : Nat} {v2 : Nat} {v3 : Int32} {v4 : Int32} {w : Int32 × Hp} (hf : f_X2_doSeason n z h v0 v1 v2 v3 v4 = some w) : z.K v0 = 2 := by
  unfold f_X2_doSeason at hf
  exact (if_some hf).1
set_option maxHeartbeats 4000000 in
theorem w_X2_doSeason_34 {p : Program} {l : Launch} {e : Env} {s : State} {m : MethodId} {args : Array Value} {below : List Frame} {meth : Method} {c : Code} {s0 : State} {E : Ev} {z : Sh} {n : Nat} {k11 : Hp → Nat → Nat → Nat → Int32 → Int32 → Int32 → Option (Int32 × Hp)} {r : Int32} {h' : Hp} (G : Gl s0 E) (B : Bd p s0 s E m c cX2_doSeason 7 RX2) (hz : s0.heap.size ≤ z.sz) (hc0 : s.heap.size + 0 = z.sz) (hr : meth.sig.returnType = (some .int)) (hlk : meth.locks = false) (hk11 : ∀ (h : Hp) (v0 : Nat) (v1 : Nat) (v2 : Nat) (v4 : Int32) (v5 : Int32) (v6 : Int32) (H : Heap) (locs : List Loc) (ls : Array Slot), Pw s0 s E z h H locs → lv_has ls 7 [(0, .ref v0), (1, .ref v1), (2, .ref v2), (4, .int v4), (5, .int v5), (6, .int v6)] → k11 h v0 v1 v2 v4 v5 v6 = some (r, h') → W p l e (rmO 5 123) s m args below meth c H locs 0 0 (Zt below s0 E z h' (some (.int r)) args s 0 0) (F0 m 11 ls [])) : ∀ (h : Hp) (v0 : Nat) (v1 : Nat) (v2 : Nat) (v4 : Int32) (v6 : Int32) (u0 : Int32) (u1 : Int32) (H : Heap) (locs : List Loc) (ls : Array Slot), Pw s0 s E z h H locs → lv_has ls 7 [(0, .ref v0), (1, .ref v1), (2, .ref v2), (4, .int v4), (6, .int v6)] → f_X2_doSeason_34 n z k11 h v0 v1 v2 v4 v6 u0 u1 = some (r, h') → W p l e (rmO 5 123) s m args below meth c H locs 0 0 (Zt below s0 E z h' (some (.int r)) args s 0 0) (F0 m 34 ls [.int u0, .int u1]) := by
  have hx := B.1
  have hb := B.2.1
  intro h v0 v1 v2 v4 v6 u0 u1 H locs ls hw hl hf
  unfold f_X2_doSeason_34 at hf
  refine lv_iadd hx hb dX2_doSeason_34 ?_
  obtain ⟨x1, e, hf⟩ := ob hf
  refine q_nmI e ?_
  refine lv_istore (lv' := [(5, .int x1), (0, .ref v0), (1, .ref v1), (2, .ref v2), (4, .int v4), (6, .int v6)]) hx hb dX2_doSeason_35 hl (by decide) rfl (fun ls hl => ?_)
  obtain ⟨x2, e, hf⟩ := ob hf
  refine lv_iinc (v := x2) (lv' := [(6, .int x2), (5, .int x1), (0, .ref v0), (1, .ref v1), (2, .ref v2), (4, .int v4)]) hx hb dX2_doSeason_37 hl (k := 5) rfl (Option.some.inj e) (by decide) rfl (fun ls hl => ?_)
  refine lv_goto (tgt := 11) hx hb dX2_doSeason_40 (by decide) ?_
  exact hk11 h v0 v1 v2 v4 x1 x2 _ _ _ hw (lv_sub hl [2, 3, 4, 5, 1, 0] rfl) hf
set_option maxHeartbeats 4000000 in
theorem w_X2_doSeason_11 {p : Program} {l : Launch} {e : Env} {s : State} {m : MethodId} {args : Array Value} {below : List Frame} {meth : Method} {c : Code} {s0 : State} {E : Ev} {z : Sh} {n : Nat} {r : Int32} {h' : Hp} (G : Gl s0 E) (B : Bd p s0 s E m c cX2_doSeason 7 RX2) (hz : s0.heap.size ≤ z.sz) (hc0 : s.heap.size + 0 = z.sz) (hr : meth.sig.returnType = (some .int)) (hlk : meth.locks = false) : ∀ (i : Nat), ∀ (h : Hp) (v0 : Nat) (v1 : Nat) (v2 : Nat) (v4 : Int32) (v5 : Int32) (v6 : Int32) (H : Heap) (locs : List Loc) (ls : Array Slot), Pw s0 s E z h H locs → lv_has ls 7 [(0, .ref v0), (1, .ref v1), (2, .ref v2), (4, .int v4), (5, .int v5), (6, .int v6)] → f_X2_doSeason_11 n z i h v0 v1 v2 v4 v5 v6 = some (r, h') → W p l e (rmO 5 123) s m args below meth c H locs 0 0 (Zt below s0 E z h' (some (.int r)) args s 0 0) (F0 m 11 ls []) := by
  have hx := B.1
  have hb := B.2.1
  intro i
  induction i with
  | zero =>
    intro h v0 v1 v2 v4 v5 v6 H locs ls hw hl hf
    have hf := (f_X2_doSeason_11.eq_1 ..).symm.trans hf
    cases hf
  | succ i ih =>
    intro h v0 v1 v2 v4 v5 v6 H locs ls hw hl hf
    have hf := (f_X2_doSeason_11.eq_2 ..).symm.trans hf
    refine lv_iload hx hb dX2_doSeason_11 (lv_at hl 5 rfl) ?_
    refine lv_iload hx hb dX2_doSeason_13 (lv_at hl 3 rfl) ?_
    refine lv_icmp_ge (tgt := 43) hx hb dX2_doSeason_15 (by decide) (fun c1 => ?_) (fun c1 => ?_)
    · have hf := (if_pos c1).symm.trans hf
      refine lv_iload hx hb dX2_doSeason_43 (lv_at hl 4 rfl) ?_
      obtain ⟨rfl, rfl⟩ := so2 hf
      exact q_iret B hw hz hc0 hr hlk dX2_doSeason_45
    · have hf := (if_neg c1).symm.trans hf
      refine lv_iload hx hb dX2_doSeason_18 (lv_at hl 4 rfl) ?_
      refine lv_aload_n hx hb dX2_doSeason_20 rfl (lv_at hl 0 rfl) ?_
      refine lv_aload_n hx hb dX2_doSeason_21 rfl (lv_at hl 1 rfl) ?_
      refine lv_aload_n hx hb dX2_doSeason_22 rfl (lv_at hl 2 rfl) ?_
      obtain ⟨⟨x2, h3⟩, e, hf⟩ := ob hf
      refine q_callV (As := [.ref v1, .ref v2]) (rest := [.int v5]) (st1 := [.int x2, .int v5]) (c_X2_doDrawn G e) B hw hz hc0 (k_X2_doDrawn e) (by decide) (ci := 2) rfl rfl my_X2_doDrawn mv_X2_doDrawn tw_4_140 ⟨Nat.le_of_ble_eq_true rfl, Nat.le_of_ble_eq_true rfl⟩ ⟨Nat.zero_le _, Nat.zero_le _⟩ rfl hl.1 rfl rfl (Nat.le_of_ble_eq_true rfl) dX2_doSeason_23 (fun H locs hw => ?_)
      refine lv_if_ne (tgt := 33) hx hb dX2_doSeason_26 (by decide) (fun c4 => ?_) (fun c4 => ?_)
      · have hf := (if_neg c4).symm.trans hf
        refine lv_iconst (v := 0) hx hb dX2_doSeason_33 (by decide) ?_
        exact w_X2_doSeason_34 G B hz hc0 hr hlk ih h3 v0 v1 v2 v4 v6 0 v5 _ _ _ hw (lv_sub hl [0, 1, 2, 3, 5] rfl) hf
      · have hf := (if_pos c4).symm.trans hf
        refine lv_iconst (v := 1) hx hb dX2_doSeason_29 (by decide) ?_
        refine lv_goto (tgt := 34) hx hb dX2_doSeason_30 (by decide) ?_
        exact w_X2_doSeason_34 G B hz hc0 hr hlk ih h3 v0 v1 v2 v4 v6 1 v5 _ _ _ hw (lv_sub hl [0, 1, 2, 3, 5] rfl) hf
set_option maxHeartbeats 4000000 in
theorem c_X2_doSeason {l : Launch} {s0 : State} {E : Ev} (G : Gl s0 E) {n : Nat} {z : Sh} {h : Hp} {v0 : Nat} {v1 : Nat} {v2 : Nat} {v3 : Int32} {v4 : Int32} {r : Int32} {h' : Hp} (hf : f_X2_doSeason n z h v0 v1 v2 v3 v4 = some (r, h')) : Ct l s0 E yX2_doSeason cX2_doSeason 7 (some .int) 5 123 [.ref v0, .ref v1, .ref v2, .int v3, .int v4] z h h' (some (.int r)) := by
  refine Ct.of G (by decide) (Nat.le_of_ble_eq_true rfl) ?_
  intro p e s m below meth c ls B hw hz hc0 hr hlk hl
  have B : Bd p s0 s E m c cX2_doSeason 7 RX2 := B
  have hx := B.1
  have hb := B.2.1
  have hl : lv_has ls 7 [(0, .ref v0), (1, .ref v1), (2, .ref v2), (3, .int v3), (4, .int v4)] := hl
  unfold f_X2_doSeason at hf
  obtain ⟨_, hf⟩ := if_some hf
  refine lv_aload_n hx hb dX2_doSeason_0 rfl (lv_at hl 0 rfl) ?_
  refine lv_iload_n hx hb dX2_doSeason_1 rfl (lv_at hl 3 rfl) ?_
  obtain ⟨h1, e, hf⟩ := ob hf
  refine q_putI e B hw fd_2_2.1 fd_2_2.2.1 fd_2_2.2.2.1 fd_2_2.2.2.2.1 fd_2_2.2.2.2.2 rfl rfl (tyX2_ok 2 (by decide)) tyX2 tyX2_ok nmX2 tw_1_209 dX2_doSeason_2 (fun H locs hw => ?_)
  refine lv_iconst (v := 0) hx hb dX2_doSeason_5 (by decide) ?_
  refine lv_istore (lv' := [(5, .int 0), (0, .ref v0), (1, .ref v1), (2, .ref v2), (3, .int v3), (4, .int v4)]) hx hb dX2_doSeason_6 hl (by decide) rfl (fun ls hl => ?_)
  refine lv_iconst (v := 0) hx hb dX2_doSeason_8 (by decide) ?_
  refine lv_istore (lv' := [(6, .int 0), (5, .int 0), (0, .ref v0), (1, .ref v1), (2, .ref v2), (3, .int v3), (4, .int v4)]) hx hb dX2_doSeason_9 hl (by decide) rfl (fun ls hl => ?_)
  exact w_X2_doSeason_11 G B hz hc0 hr hlk  n h1 v0 v1 v2 v4 0 0 _ _ _ hw (lv_sub hl [2, 3, 4, 6, 1, 0] rfl) hf
/-! SecondLife$Reader.factTold()I -/
def f_X6_factTold (n : Nat) (z : Sh) (h : Hp) (v0 : Nat) : Option (Int32) :=
  if z.K v0 = 6 then
    (f_X6_is n z h v0 (z.st 16)).bind fun x1 =>
    if x1 = 0 then
      (f_X6_is n z h v0 (z.st 37)).bind fun x3 =>
      if x3 = 0 then
        (gI z h 6 v0 9).bind fun x5 =>
        if x5 = 0 then
          some ((-1) : Int32)
        else
          (f_X6_is n z h v0 (z.st 38)).bind fun x7 =>
          if x7 = 0 then
            (f_X6_is n z h v0 (z.st 39)).bind fun x9 =>
            if x9 = 0 then
              (f_X6_is n z h v0 (z.st 40)).bind fun x11 =>
              if x11 = 0 then
                (f_X6_is n z h v0 (z.st 41)).bind fun x13 =>
                if x13 = 0 then
                  (f_X6_is n z h v0 (z.st 42)).bind fun x15 =>
                  if x15 = 0 then
                    some ((-1) : Int32)
                  else
                    some (6 : Int32)
                else
                  some (5 : Int32)
              else
                some (4 : Int32)
            else
              some (3 : Int32)
          else
            some (2 : Int32)
      else
        some (1 : Int32)
    else
      some (0 : Int32)
  else none
theorem k_X6_factTold {n : Nat} {z : Sh} {h : Hp} {v0 : Nat} {w : Int32} (hf : f_X6_factTold n z h v0 = some w) : z.K v0 = 6 := by
  unfold f_X6_factTold at hf
  exact (if_some hf).1
set_option maxHeartbeats 4000000 in
theorem c_X6_factTold {l : Launch} {s0 : State} {E : Ev} (G : Gl s0 E) {n : Nat} {z : Sh} {h : Hp} {v0 : Nat} {r : Int32} (hf : f_X6_factTold n z h v0 = some r) : Ct l s0 E yX6_factTold cX6_factTold 1 (some .int) 5 107 [.ref v0] z h h (some (.int r)) := by
  refine Ct.of G (by decide) (Nat.le_of_ble_eq_true rfl) ?_
  intro p e s m below meth c ls B hw hz hc0 hr hlk hl
  have B : Bd p s0 s E m c cX6_factTold 1 RX6 := B
  have hx := B.1
  have hb := B.2.1
  have hl : lv_has ls 1 [(0, .ref v0)] := hl
  unfold f_X6_factTold at hf
  obtain ⟨_, hf⟩ := if_some hf
  refine lv_aload_n hx hb dX6_factTold_0 rfl (lv_at hl 0 rfl) ?_
  refine q_ldcS (tx := "talent") G (i := 16) (List.mem_of_getElem? (i := 6) (by decide +kernel)) B hw dX6_factTold_1 ?_
  obtain ⟨x1, e, hf⟩ := ob hf
  refine q_callV (As := [.ref (z.st 16)]) (rest := []) (st1 := [.int x1]) (c_X6_is G e) B hw hz hc0 (k_X6_is e) (by decide) (ci := 6) rfl rfl my_X6_is mv_X6_is tw_3_42 ⟨Nat.le_of_ble_eq_true rfl, Nat.le_of_ble_eq_true rfl⟩ ⟨Nat.zero_le _, Nat.zero_le _⟩ rfl hl.1 rfl rfl (Nat.le_of_ble_eq_true rfl) dX6_factTold_3 (fun H locs hw => ?_)
  refine lv_if_eq (tgt := 11) hx hb dX6_factTold_6 (by decide) (fun c2 => ?_) (fun c2 => ?_)
  · have hf := (if_pos c2).symm.trans hf
    refine lv_aload_n hx hb dX6_factTold_11 rfl (lv_at hl 0 rfl) ?_
    refine q_ldcS (tx := "year") G (i := 37) (List.mem_of_getElem? (i := 27) (by decide +kernel)) B hw dX6_factTold_12 ?_
    obtain ⟨x3, e, hf⟩ := ob hf
    refine q_callV (As := [.ref (z.st 37)]) (rest := []) (st1 := [.int x3]) (c_X6_is G e) B hw hz hc0 (k_X6_is e) (by decide) (ci := 6) rfl rfl my_X6_is mv_X6_is tw_3_42 ⟨Nat.le_of_ble_eq_true rfl, Nat.le_of_ble_eq_true rfl⟩ ⟨Nat.zero_le _, Nat.zero_le _⟩ rfl hl.1 rfl rfl (Nat.le_of_ble_eq_true rfl) dX6_factTold_14 (fun H locs hw => ?_)
    refine lv_if_eq (tgt := 22) hx hb dX6_factTold_17 (by decide) (fun c4 => ?_) (fun c4 => ?_)
    · have hf := (if_pos c4).symm.trans hf
      refine lv_aload_n hx hb dX6_factTold_22 rfl (lv_at hl 0 rfl) ?_
      obtain ⟨x5, e, hf⟩ := ob hf
      refine q_getI e B hw fd_6_9.1 fd_6_9.2.1 fd_6_9.2.2.1 fd_6_9.2.2.2.1 fd_6_9.2.2.2.2 rfl tw_1_114 dX6_factTold_23 ?_
      refine lv_if_ne (tgt := 31) hx hb dX6_factTold_26 (by decide) (fun c6 => ?_) (fun c6 => ?_)
      · have hf := (if_neg c6).symm.trans hf
        refine lv_aload_n hx hb dX6_factTold_31 rfl (lv_at hl 0 rfl) ?_
        refine q_ldcS (tx := "trade") G (i := 38) (List.mem_of_getElem? (i := 28) (by decide +kernel)) B hw dX6_factTold_32 ?_
        obtain ⟨x7, e, hf⟩ := ob hf
        refine q_callV (As := [.ref (z.st 38)]) (rest := []) (st1 := [.int x7]) (c_X6_is G e) B hw hz hc0 (k_X6_is e) (by decide) (ci := 6) rfl rfl my_X6_is mv_X6_is tw_3_42 ⟨Nat.le_of_ble_eq_true rfl, Nat.le_of_ble_eq_true rfl⟩ ⟨Nat.zero_le _, Nat.zero_le _⟩ rfl hl.1 rfl rfl (Nat.le_of_ble_eq_true rfl) dX6_factTold_34 (fun H locs hw => ?_)
        refine lv_if_eq (tgt := 42) hx hb dX6_factTold_37 (by decide) (fun c8 => ?_) (fun c8 => ?_)
        · have hf := (if_pos c8).symm.trans hf
          refine lv_aload_n hx hb dX6_factTold_42 rfl (lv_at hl 0 rfl) ?_
          refine q_ldcS (tx := "last") G (i := 39) (List.mem_of_getElem? (i := 29) (by decide +kernel)) B hw dX6_factTold_43 ?_
          obtain ⟨x9, e, hf⟩ := ob hf
          refine q_callV (As := [.ref (z.st 39)]) (rest := []) (st1 := [.int x9]) (c_X6_is G e) B hw hz hc0 (k_X6_is e) (by decide) (ci := 6) rfl rfl my_X6_is mv_X6_is tw_3_42 ⟨Nat.le_of_ble_eq_true rfl, Nat.le_of_ble_eq_true rfl⟩ ⟨Nat.zero_le _, Nat.zero_le _⟩ rfl hl.1 rfl rfl (Nat.le_of_ble_eq_true rfl) dX6_factTold_45 (fun H locs hw => ?_)
          refine lv_if_eq (tgt := 53) hx hb dX6_factTold_48 (by decide) (fun c10 => ?_) (fun c10 => ?_)
          · have hf := (if_pos c10).symm.trans hf
            refine lv_aload_n hx hb dX6_factTold_53 rfl (lv_at hl 0 rfl) ?_
            refine q_ldcS (tx := "streak") G (i := 40) (List.mem_of_getElem? (i := 30) (by decide +kernel)) B hw dX6_factTold_54 ?_
            obtain ⟨x11, e, hf⟩ := ob hf
            refine q_callV (As := [.ref (z.st 40)]) (rest := []) (st1 := [.int x11]) (c_X6_is G e) B hw hz hc0 (k_X6_is e) (by decide) (ci := 6) rfl rfl my_X6_is mv_X6_is tw_3_42 ⟨Nat.le_of_ble_eq_true rfl, Nat.le_of_ble_eq_true rfl⟩ ⟨Nat.zero_le _, Nat.zero_le _⟩ rfl hl.1 rfl rfl (Nat.le_of_ble_eq_true rfl) dX6_factTold_56 (fun H locs hw => ?_)
            refine lv_if_eq (tgt := 64) hx hb dX6_factTold_59 (by decide) (fun c12 => ?_) (fun c12 => ?_)
            · have hf := (if_pos c12).symm.trans hf
              refine lv_aload_n hx hb dX6_factTold_64 rfl (lv_at hl 0 rfl) ?_
              refine q_ldcS (tx := "life") G (i := 41) (List.mem_of_getElem? (i := 31) (by decide +kernel)) B hw dX6_factTold_65 ?_
              obtain ⟨x13, e, hf⟩ := ob hf
              refine q_callV (As := [.ref (z.st 41)]) (rest := []) (st1 := [.int x13]) (c_X6_is G e) B hw hz hc0 (k_X6_is e) (by decide) (ci := 6) rfl rfl my_X6_is mv_X6_is tw_3_42 ⟨Nat.le_of_ble_eq_true rfl, Nat.le_of_ble_eq_true rfl⟩ ⟨Nat.zero_le _, Nat.zero_le _⟩ rfl hl.1 rfl rfl (Nat.le_of_ble_eq_true rfl) dX6_factTold_67 (fun H locs hw => ?_)
              refine lv_if_eq (tgt := 75) hx hb dX6_factTold_70 (by decide) (fun c14 => ?_) (fun c14 => ?_)
              · have hf := (if_pos c14).symm.trans hf
                refine lv_aload_n hx hb dX6_factTold_75 rfl (lv_at hl 0 rfl) ?_
                refine q_ldcS (tx := "old") G (i := 42) (List.mem_of_getElem? (i := 32) (by decide +kernel)) B hw dX6_factTold_76 ?_
                obtain ⟨x15, e, hf⟩ := ob hf
                refine q_callV (As := [.ref (z.st 42)]) (rest := []) (st1 := [.int x15]) (c_X6_is G e) B hw hz hc0 (k_X6_is e) (by decide) (ci := 6) rfl rfl my_X6_is mv_X6_is tw_3_42 ⟨Nat.le_of_ble_eq_true rfl, Nat.le_of_ble_eq_true rfl⟩ ⟨Nat.zero_le _, Nat.zero_le _⟩ rfl hl.1 rfl rfl (Nat.le_of_ble_eq_true rfl) dX6_factTold_78 (fun H locs hw => ?_)
                refine lv_if_eq (tgt := 89) hx hb dX6_factTold_81 (by decide) (fun c16 => ?_) (fun c16 => ?_)
                · have hf := (if_pos c16).symm.trans hf
                  refine lv_iconst (v := (-1)) hx hb dX6_factTold_89 (by decide) ?_
                  obtain rfl := so hf
                  exact q_iret B hw hz hc0 hr hlk dX6_factTold_90
                · have hf := (if_neg c16).symm.trans hf
                  refine lv_bipush (v := 6) hx hb dX6_factTold_84 (by decide) ?_
                  refine lv_goto (tgt := 90) hx hb dX6_factTold_86 (by decide) ?_
                  obtain rfl := so hf
                  exact q_iret B hw hz hc0 hr hlk dX6_factTold_90
              · have hf := (if_neg c14).symm.trans hf
                refine lv_iconst (v := 5) hx hb dX6_factTold_73 (by decide) ?_
                obtain rfl := so hf
                exact q_iret B hw hz hc0 hr hlk dX6_factTold_74
            · have hf := (if_neg c12).symm.trans hf
              refine lv_iconst (v := 4) hx hb dX6_factTold_62 (by decide) ?_
              obtain rfl := so hf
              exact q_iret B hw hz hc0 hr hlk dX6_factTold_63
          · have hf := (if_neg c10).symm.trans hf
            refine lv_iconst (v := 3) hx hb dX6_factTold_51 (by decide) ?_
            obtain rfl := so hf
            exact q_iret B hw hz hc0 hr hlk dX6_factTold_52
        · have hf := (if_neg c8).symm.trans hf
          refine lv_iconst (v := 2) hx hb dX6_factTold_40 (by decide) ?_
          obtain rfl := so hf
          exact q_iret B hw hz hc0 hr hlk dX6_factTold_41
      · have hf := (if_pos c6).symm.trans hf
        refine lv_iconst (v := (-1)) hx hb dX6_factTold_29 (by decide) ?_
        obtain rfl := so hf
        exact q_iret B hw hz hc0 hr hlk dX6_factTold_30
    · have hf := (if_neg c4).symm.trans hf
      refine lv_iconst (v := 1) hx hb dX6_factTold_20 (by decide) ?_
      obtain rfl := so hf
      exact q_iret B hw hz hc0 hr hlk dX6_factTold_21
  · have hf := (if_neg c2).symm.trans hf
    refine lv_iconst (v := 0) hx hb dX6_factTold_9 (by decide) ?_
    obtain rfl := so hf
    exact q_iret B hw hz hc0 hr hlk dX6_factTold_10
