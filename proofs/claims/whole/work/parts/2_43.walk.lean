/-! SecondLife.hope(III)J -/
def f_X11_hope_36 (n : Nat)  (z : Sh) (h : Hp) : Option (Int64 × Hp × Sh) :=
  (f_X11_refused z h 3).bind fun x1 =>
  some ((Int32.toInt64 x1), h, z)
def f_X11_hope_20 (n : Nat)  (z : Sh) (h : Hp) : Option (Int64 × Hp × Sh) :=
  (f_X11_refused z h 2).bind fun x1 =>
  some ((Int32.toInt64 x1), h, z)
def f_X11_hope (n : Nat) (z : Sh) (h : Hp) (v0 : Nat) (v1 : Int32) (v2 : Int32) (v3 : Int32) : Option (Int64 × Hp × Sh) :=
  if z.K v0 = 11 then
    gd3 z <|
    (gR z h 11 v0 4).bind fun a1 =>
    (f_X5_has z h a1 v1).bind fun x2 =>
    if x2 = 0 then
      f_X11_hope_20 n z h
    else
      if v3 < 0 then
        f_X11_hope_20 n z h
      else
        if v3 ≤ 1 then
          if v2 < 0 then
            f_X11_hope_36 n z h
          else
            if v2 ≤ 60 then
              (gR z h 11 v0 12).bind fun a8 =>
              (gR z h 11 v0 3).bind fun a9 =>
              (gR z h 11 v0 4).bind fun a10 =>
              (f_X10_about n z h a8 a9 a10 v1).bind fun h11 =>
              (gR z h11 11 v0 14).bind fun a12 =>
              (gR z h11 11 v0 14).bind fun a13 =>
              (f_X0_hopeNow n z h11 a13 v2).bind fun (x14, h15, z16) =>
              gd3 z16 <|
              (f_X0_fraction n z16 h15 a12 x14 v3).bind fun x17 =>
              some (x17, h15, z16)
            else
              f_X11_hope_36 n z h
        else
          f_X11_hope_20 n z h
  else none
theorem k_X11_hope {n : Nat} {z : Sh} {h : Hp} {v0 : Nat} {v1 : Int32} {v2 : Int32} {v3 : Int32} {w : Int64 × Hp × Sh} (hf : f_X11_hope n z h v0 v1 v2 v3 = some w) : z.K v0 = 11 := by
  unfold f_X11_hope at hf
  exact (if_some hf).1
theorem mo_X11_hope {n : Nat} {z : Sh} {h : Hp} {v0 : Nat} {v1 : Int32} {v2 : Int32} {v3 : Int32} {r : Int64} {h' : Hp} {zE : Sh} (hf : f_X11_hope n z h v0 v1 v2 v3 = some (r, h', zE)) : z.sz ≤ zE.sz ∧ z.sl ≤ zE.sl := by
  unfold f_X11_hope at hf
  exact (gd3_some (if_some hf).2).1
set_option maxHeartbeats 4000000 in
theorem w_X11_hope_36 {p : Program} {l : Launch} {e : Env} {s : State} {m : MethodId} {args : Array Value} {below : List Frame} {meth : Method} {c : Code} {s0 : State} {E : Ev} {z0 : Sh} {n : Nat} {r : Int64} {h' : Hp} {zE : Sh} (G : Gl s0 E) (B : Bd p s0 s E m c cX11_hope 4 RX11) (hr : meth.sig.returnType = (some .long)) (hlk : meth.locks = false) : ∀ (z : Sh) (h : Hp) (H : Heap) (locs : List Loc) (ls : Array Slot), Pw s0 s E z h H locs → Mo s0 s z0 z zE → lv_has ls 4 [] → f_X11_hope_36 n z h = some (r, h', zE) → W p l e (rmA 68 3770 z0 zE) s m args below meth c H locs (z.sz - z0.sz) (z.sl - z0.sl) (Zt below s0 E zE h' (some (.long r)) args s (zE.sz - z0.sz) (zE.sl - z0.sl)) (F0 m 36 ls []) := by
  have hx := B.1
  have hb := B.2.1
  intro z h H locs ls hw hM hl hf
  unfold f_X11_hope_36 at hf
  refine lv_iconst (v := 3) hx hb dX11_hope_36 (by decide) ?_
  obtain ⟨x1, e, hf⟩ := ob hf
  refine q_callS (As := [.int 3]) (rest := []) (st1 := [.int x1]) (c_X11_refused G e) B hw hM.hz hM.hc0 my_X11_refused mv_X11_refused tw_2_155 ⟨Nat.le_of_ble_eq_true rfl, Nat.le_of_ble_eq_true rfl⟩ hM.hcs rfl hl.1 rfl rfl (Nat.le_of_ble_eq_true rfl) dX11_hope_37 (fun H locs hw => ?_)
  refine lv_i2l (v := (Int32.toInt64 x1)) hx hb dX11_hope_40 rfl ?_
  obtain ⟨rfl, rfl, rfl⟩ := so3 hf
  exact q_lret B hw hM.hz hM.hc0 hr hlk dX11_hope_41
set_option maxHeartbeats 4000000 in
theorem w_X11_hope_20 {p : Program} {l : Launch} {e : Env} {s : State} {m : MethodId} {args : Array Value} {below : List Frame} {meth : Method} {c : Code} {s0 : State} {E : Ev} {z0 : Sh} {n : Nat} {r : Int64} {h' : Hp} {zE : Sh} (G : Gl s0 E) (B : Bd p s0 s E m c cX11_hope 4 RX11) (hr : meth.sig.returnType = (some .long)) (hlk : meth.locks = false) : ∀ (z : Sh) (h : Hp) (H : Heap) (locs : List Loc) (ls : Array Slot), Pw s0 s E z h H locs → Mo s0 s z0 z zE → lv_has ls 4 [] → f_X11_hope_20 n z h = some (r, h', zE) → W p l e (rmA 68 3770 z0 zE) s m args below meth c H locs (z.sz - z0.sz) (z.sl - z0.sl) (Zt below s0 E zE h' (some (.long r)) args s (zE.sz - z0.sz) (zE.sl - z0.sl)) (F0 m 20 ls []) := by
  have hx := B.1
  have hb := B.2.1
  intro z h H locs ls hw hM hl hf
  unfold f_X11_hope_20 at hf
  refine lv_iconst (v := 2) hx hb dX11_hope_20 (by decide) ?_
  obtain ⟨x1, e, hf⟩ := ob hf
  refine q_callS (As := [.int 2]) (rest := []) (st1 := [.int x1]) (c_X11_refused G e) B hw hM.hz hM.hc0 my_X11_refused mv_X11_refused tw_2_155 ⟨Nat.le_of_ble_eq_true rfl, Nat.le_of_ble_eq_true rfl⟩ hM.hcs rfl hl.1 rfl rfl (Nat.le_of_ble_eq_true rfl) dX11_hope_21 (fun H locs hw => ?_)
  refine lv_i2l (v := (Int32.toInt64 x1)) hx hb dX11_hope_24 rfl ?_
  obtain ⟨rfl, rfl, rfl⟩ := so3 hf
  exact q_lret B hw hM.hz hM.hc0 hr hlk dX11_hope_25
set_option maxHeartbeats 4000000 in
theorem c_X11_hope {l : Launch} {s0 : State} {E : Ev} (G : Gl s0 E) {n : Nat} {z : Sh} {h : Hp} {v0 : Nat} {v1 : Int32} {v2 : Int32} {v3 : Int32} {r : Int64} {h' : Hp} {zE : Sh} (hf : f_X11_hope n z h v0 v1 v2 v3 = some (r, h', zE)) : Ca l s0 E yX11_hope cX11_hope 4 (some .long) 68 3770 [.ref v0, .int v1, .int v2, .int v3] z zE h h' (some (.long r)) := by
  refine Ca.of G (by decide +kernel) (Nat.le_of_ble_eq_true rfl) (mo_X11_hope hf) ?_
  intro p e s m below meth c ls B hw hM hr hlk hnm0 hl
  have B : Bd p s0 s E m c cX11_hope 4 RX11 := B
  have hx := B.1
  have hb := B.2.1
  have hl : lv_has ls 4 [(0, .ref v0), (1, .int v1), (2, .int v2), (3, .int v3)] := hl
  unfold f_X11_hope at hf
  obtain ⟨_, hf⟩ := if_some hf
  obtain ⟨_, hf⟩ := gd3_some hf
  refine lv_aload_n hx hb dX11_hope_0 rfl (lv_at hl 0 rfl) ?_
  obtain ⟨a1, e, hf⟩ := ob hf
  refine q_getR e B hw fd_11_4.1 fd_11_4.2.1 fd_11_4.2.2.1 fd_11_4.2.2.2.1 fd_11_4.2.2.2.2 rfl tw_2_106 dX11_hope_1 ?_
  refine lv_iload_n hx hb dX11_hope_4 rfl (lv_at hl 1 rfl) ?_
  obtain ⟨x2, e, hf⟩ := ob hf
  refine q_callVN (As := [.int v1]) (rest := []) (st1 := [.int x2]) (c_X5_has G e) B hw hM.hz hM.hc0 (k_X5_has e) (by decide) (ci := 5) rfl rfl my_X5_has mv_X5_has tw_3_214 ⟨Nat.le_of_ble_eq_true rfl, Nat.le_of_ble_eq_true rfl⟩ hM.hcs rfl hl.1 rfl rfl (Nat.le_of_ble_eq_true rfl) dX11_hope_5 (fun H locs hw => ?_)
  refine lv_if_eq (tgt := 20) hx hb dX11_hope_8 (by decide) (fun c3 => ?_) (fun c3 => ?_)
  · have hf := (if_pos c3).symm.trans hf
    exact w_X11_hope_20 G B hr hlk  z h _ _ _ hw hM (lv_sub hl [] rfl) hf
  · have hf := (if_neg c3).symm.trans hf
    refine lv_iload_n hx hb dX11_hope_11 rfl (lv_at hl 3 rfl) ?_
    refine lv_if_lt (tgt := 20) hx hb dX11_hope_12 (by decide) (fun c4 => ?_) (fun c4 => ?_)
    · have hf := (if_pos c4).symm.trans hf
      exact w_X11_hope_20 G B hr hlk  z h _ _ _ hw hM (lv_sub hl [] rfl) hf
    · have hf := (if_neg c4).symm.trans hf
      refine lv_iload_n hx hb dX11_hope_15 rfl (lv_at hl 3 rfl) ?_
      refine lv_iconst (v := 1) hx hb dX11_hope_16 (by decide) ?_
      refine lv_icmp_le (tgt := 26) hx hb dX11_hope_17 (by decide) (fun c5 => ?_) (fun c5 => ?_)
      · have hf := (if_pos c5).symm.trans hf
        refine lv_iload_n hx hb dX11_hope_26 rfl (lv_at hl 2 rfl) ?_
        refine lv_if_lt (tgt := 36) hx hb dX11_hope_27 (by decide) (fun c6 => ?_) (fun c6 => ?_)
        · have hf := (if_pos c6).symm.trans hf
          exact w_X11_hope_36 G B hr hlk  z h _ _ _ hw hM (lv_sub hl [] rfl) hf
        · have hf := (if_neg c6).symm.trans hf
          refine lv_iload_n hx hb dX11_hope_30 rfl (lv_at hl 2 rfl) ?_
          refine lv_bipush (v := 60) hx hb dX11_hope_31 (by decide) ?_
          refine lv_icmp_le (tgt := 42) hx hb dX11_hope_33 (by decide) (fun c7 => ?_) (fun c7 => ?_)
          · have hf := (if_pos c7).symm.trans hf
            refine lv_aload_n hx hb dX11_hope_42 rfl (lv_at hl 0 rfl) ?_
            obtain ⟨a8, e, hf⟩ := ob hf
            refine q_getR e B hw fd_11_12.1 fd_11_12.2.1 fd_11_12.2.2.1 fd_11_12.2.2.2.1 fd_11_12.2.2.2.2 rfl tw_2_114 dX11_hope_43 ?_
            refine lv_aload_n hx hb dX11_hope_46 rfl (lv_at hl 0 rfl) ?_
            obtain ⟨a9, e, hf⟩ := ob hf
            refine q_getR e B hw fd_11_3.1 fd_11_3.2.1 fd_11_3.2.2.1 fd_11_3.2.2.2.1 fd_11_3.2.2.2.2 rfl tw_2_105 dX11_hope_47 ?_
            refine lv_aload_n hx hb dX11_hope_50 rfl (lv_at hl 0 rfl) ?_
            obtain ⟨a10, e, hf⟩ := ob hf
            refine q_getR e B hw fd_11_4.1 fd_11_4.2.1 fd_11_4.2.2.1 fd_11_4.2.2.2.1 fd_11_4.2.2.2.2 rfl tw_2_106 dX11_hope_51 ?_
            refine lv_iload_n hx hb dX11_hope_54 rfl (lv_at hl 1 rfl) ?_
            obtain ⟨h11, e, hf⟩ := ob hf
            refine q_callVN (As := [.ref a9, .ref a10, .int v1]) (rest := []) (st1 := []) (c_X10_about G e) B hw hM.hz hM.hc0 (k_X10_about e) (by decide) (ci := 10) rfl rfl my_X10_about mv_X10_about tw_4_157 ⟨Nat.le_of_ble_eq_true rfl, Nat.le_of_ble_eq_true rfl⟩ hM.hcs rfl hl.1 rfl rfl (Nat.le_of_ble_eq_true rfl) dX11_hope_55 (fun H locs hw => ?_)
            refine lv_aload_n hx hb dX11_hope_58 rfl (lv_at hl 0 rfl) ?_
            obtain ⟨a12, e, hf⟩ := ob hf
            refine q_getR e B hw fd_11_14.1 fd_11_14.2.1 fd_11_14.2.2.1 fd_11_14.2.2.2.1 fd_11_14.2.2.2.2 rfl tw_2_116 dX11_hope_59 ?_
            refine lv_aload_n hx hb dX11_hope_62 rfl (lv_at hl 0 rfl) ?_
            obtain ⟨a13, e, hf⟩ := ob hf
            refine q_getR e B hw fd_11_14.1 fd_11_14.2.1 fd_11_14.2.2.1 fd_11_14.2.2.2.1 fd_11_14.2.2.2.2 rfl tw_2_116 dX11_hope_63 ?_
            refine lv_iload_n hx hb dX11_hope_66 rfl (lv_at hl 2 rfl) ?_
            obtain ⟨⟨x14, h15, z16⟩, e, hf⟩ := ob hf
            obtain ⟨hg, hf⟩ := gd3_some hf
            refine q_callVNA (As := [.int v2]) (rest := [.ref a12]) (st1 := [.long x14, .ref a12]) (c_X0_hopeNow G e) (mo_X0_hopeNow e) hg B hw hM (k_X0_hopeNow e) (by decide) (ci := 0) rfl rfl my_X0_hopeNow mv_X0_hopeNow tw_5_111 ⟨Nat.le_of_ble_eq_true rfl, Nat.le_of_ble_eq_true rfl⟩ rfl hl.1 rfl rfl (Nat.le_of_ble_eq_true rfl) dX11_hope_67 (fun H locs hw hM => ?_)
            refine lv_iload_n hx hb dX11_hope_70 rfl (lv_at hl 3 rfl) ?_
            obtain ⟨x17, e, hf⟩ := ob hf
            refine q_callVN (As := [.long x14, .int v3]) (rest := []) (st1 := [.long x17]) (c_X0_fraction G e) B hw hM.hz hM.hc0 (k_X0_fraction e) (by decide) (ci := 0) rfl rfl my_X0_fraction mv_X0_fraction tw_5_84 ⟨Nat.le_of_ble_eq_true rfl, Nat.le_of_ble_eq_true rfl⟩ hM.hcs rfl hl.1 rfl rfl (Nat.le_of_ble_eq_true rfl) dX11_hope_71 (fun H locs hw => ?_)
            obtain ⟨rfl, rfl, rfl⟩ := so3 hf
            exact q_lret B hw hM.hz hM.hc0 hr hlk dX11_hope_74
          · have hf := (if_neg c7).symm.trans hf
            exact w_X11_hope_36 G B hr hlk  z h _ _ _ hw hM (lv_sub hl [] rfl) hf
      · have hf := (if_neg c5).symm.trans hf
        exact w_X11_hope_20 G B hr hlk  z h _ _ _ hw hM (lv_sub hl [] rfl) hf
/-! SecondLife.hoping(II)I -/
def f_X11_hoping_26 (n : Nat)  (z : Sh) (h : Hp) : Option (Int32 × Hp × Sh) :=
  (f_X11_refused z h 3).bind fun x1 =>
  some (x1, h, z)
def f_X11_hoping (n : Nat) (z : Sh) (h : Hp) (v0 : Nat) (v1 : Int32) (v2 : Int32) : Option (Int32 × Hp × Sh) :=
  if z.K v0 = 11 then
    gd3 z <|
    (gR z h 11 v0 4).bind fun a1 =>
    (f_X5_has z h a1 v1).bind fun x2 =>
    if x2 = 0 then
      (f_X11_refused z h 2).bind fun x14 =>
      some (x14, h, z)
    else
      if v2 < 0 then
        f_X11_hoping_26 n z h
      else
        if v2 ≤ 60 then
          (gR z h 11 v0 12).bind fun a6 =>
          (gR z h 11 v0 3).bind fun a7 =>
          (gR z h 11 v0 4).bind fun a8 =>
          (f_X10_about n z h a6 a7 a8 v1).bind fun h9 =>
          (gR z h9 11 v0 14).bind fun a10 =>
          (f_X0_hopeDoing n z h9 a10 v2).bind fun (x11, h12, z13) =>
          gd3 z13 <|
          some (x11, h12, z13)
        else
          f_X11_hoping_26 n z h
  else none
theorem k_X11_hoping {n : Nat} {z : Sh} {h : Hp} {v0 : Nat} {v1 : Int32} {v2 : Int32} {w : Int32 × Hp × Sh} (hf : f_X11_hoping n z h v0 v1 v2 = some w) : z.K v0 = 11 := by
  unfold f_X11_hoping at hf
  exact (if_some hf).1
theorem mo_X11_hoping {n : Nat} {z : Sh} {h : Hp} {v0 : Nat} {v1 : Int32} {v2 : Int32} {r : Int32} {h' : Hp} {zE : Sh} (hf : f_X11_hoping n z h v0 v1 v2 = some (r, h', zE)) : z.sz ≤ zE.sz ∧ z.sl ≤ zE.sl := by
  unfold f_X11_hoping at hf
  exact (gd3_some (if_some hf).2).1
set_option maxHeartbeats 4000000 in
theorem w_X11_hoping_26 {p : Program} {l : Launch} {e : Env} {s : State} {m : MethodId} {args : Array Value} {below : List Frame} {meth : Method} {c : Code} {s0 : State} {E : Ev} {z0 : Sh} {n : Nat} {r : Int32} {h' : Hp} {zE : Sh} (G : Gl s0 E) (B : Bd p s0 s E m c cX11_hoping 3 RX11) (hr : meth.sig.returnType = (some .int)) (hlk : meth.locks = false) : ∀ (z : Sh) (h : Hp) (H : Heap) (locs : List Loc) (ls : Array Slot), Pw s0 s E z h H locs → Mo s0 s z0 z zE → lv_has ls 3 [] → f_X11_hoping_26 n z h = some (r, h', zE) → W p l e (rmA 69 3796 z0 zE) s m args below meth c H locs (z.sz - z0.sz) (z.sl - z0.sl) (Zt below s0 E zE h' (some (.int r)) args s (zE.sz - z0.sz) (zE.sl - z0.sl)) (F0 m 26 ls []) := by
  have hx := B.1
  have hb := B.2.1
  intro z h H locs ls hw hM hl hf
  unfold f_X11_hoping_26 at hf
  refine lv_iconst (v := 3) hx hb dX11_hoping_26 (by decide) ?_
  obtain ⟨x1, e, hf⟩ := ob hf
  refine q_callS (As := [.int 3]) (rest := []) (st1 := [.int x1]) (c_X11_refused G e) B hw hM.hz hM.hc0 my_X11_refused mv_X11_refused tw_2_155 ⟨Nat.le_of_ble_eq_true rfl, Nat.le_of_ble_eq_true rfl⟩ hM.hcs rfl hl.1 rfl rfl (Nat.le_of_ble_eq_true rfl) dX11_hoping_27 (fun H locs hw => ?_)
  obtain ⟨rfl, rfl, rfl⟩ := so3 hf
  exact q_iret B hw hM.hz hM.hc0 hr hlk dX11_hoping_30
set_option maxHeartbeats 4000000 in
theorem c_X11_hoping {l : Launch} {s0 : State} {E : Ev} (G : Gl s0 E) {n : Nat} {z : Sh} {h : Hp} {v0 : Nat} {v1 : Int32} {v2 : Int32} {r : Int32} {h' : Hp} {zE : Sh} (hf : f_X11_hoping n z h v0 v1 v2 = some (r, h', zE)) : Ca l s0 E yX11_hoping cX11_hoping 3 (some .int) 69 3796 [.ref v0, .int v1, .int v2] z zE h h' (some (.int r)) := by
  refine Ca.of G (by decide +kernel) (Nat.le_of_ble_eq_true rfl) (mo_X11_hoping hf) ?_
  intro p e s m below meth c ls B hw hM hr hlk hnm0 hl
  have B : Bd p s0 s E m c cX11_hoping 3 RX11 := B
  have hx := B.1
  have hb := B.2.1
  have hl : lv_has ls 3 [(0, .ref v0), (1, .int v1), (2, .int v2)] := hl
  unfold f_X11_hoping at hf
  obtain ⟨_, hf⟩ := if_some hf
  obtain ⟨_, hf⟩ := gd3_some hf
  refine lv_aload_n hx hb dX11_hoping_0 rfl (lv_at hl 0 rfl) ?_
  obtain ⟨a1, e, hf⟩ := ob hf
  refine q_getR e B hw fd_11_4.1 fd_11_4.2.1 fd_11_4.2.2.1 fd_11_4.2.2.2.1 fd_11_4.2.2.2.2 rfl tw_2_106 dX11_hoping_1 ?_
  refine lv_iload_n hx hb dX11_hoping_4 rfl (lv_at hl 1 rfl) ?_
  obtain ⟨x2, e, hf⟩ := ob hf
  refine q_callVN (As := [.int v1]) (rest := []) (st1 := [.int x2]) (c_X5_has G e) B hw hM.hz hM.hc0 (k_X5_has e) (by decide) (ci := 5) rfl rfl my_X5_has mv_X5_has tw_3_214 ⟨Nat.le_of_ble_eq_true rfl, Nat.le_of_ble_eq_true rfl⟩ hM.hcs rfl hl.1 rfl rfl (Nat.le_of_ble_eq_true rfl) dX11_hoping_5 (fun H locs hw => ?_)
  refine lv_if_ne (tgt := 16) hx hb dX11_hoping_8 (by decide) (fun c3 => ?_) (fun c3 => ?_)
  · have hf := (if_neg c3).symm.trans hf
    refine lv_iload_n hx hb dX11_hoping_16 rfl (lv_at hl 2 rfl) ?_
    refine lv_if_lt (tgt := 26) hx hb dX11_hoping_17 (by decide) (fun c4 => ?_) (fun c4 => ?_)
    · have hf := (if_pos c4).symm.trans hf
      exact w_X11_hoping_26 G B hr hlk  z h _ _ _ hw hM (lv_sub hl [] rfl) hf
    · have hf := (if_neg c4).symm.trans hf
      refine lv_iload_n hx hb dX11_hoping_20 rfl (lv_at hl 2 rfl) ?_
      refine lv_bipush (v := 60) hx hb dX11_hoping_21 (by decide) ?_
      refine lv_icmp_le (tgt := 31) hx hb dX11_hoping_23 (by decide) (fun c5 => ?_) (fun c5 => ?_)
      · have hf := (if_pos c5).symm.trans hf
        refine lv_aload_n hx hb dX11_hoping_31 rfl (lv_at hl 0 rfl) ?_
        obtain ⟨a6, e, hf⟩ := ob hf
        refine q_getR e B hw fd_11_12.1 fd_11_12.2.1 fd_11_12.2.2.1 fd_11_12.2.2.2.1 fd_11_12.2.2.2.2 rfl tw_2_114 dX11_hoping_32 ?_
        refine lv_aload_n hx hb dX11_hoping_35 rfl (lv_at hl 0 rfl) ?_
        obtain ⟨a7, e, hf⟩ := ob hf
        refine q_getR e B hw fd_11_3.1 fd_11_3.2.1 fd_11_3.2.2.1 fd_11_3.2.2.2.1 fd_11_3.2.2.2.2 rfl tw_2_105 dX11_hoping_36 ?_
        refine lv_aload_n hx hb dX11_hoping_39 rfl (lv_at hl 0 rfl) ?_
        obtain ⟨a8, e, hf⟩ := ob hf
        refine q_getR e B hw fd_11_4.1 fd_11_4.2.1 fd_11_4.2.2.1 fd_11_4.2.2.2.1 fd_11_4.2.2.2.2 rfl tw_2_106 dX11_hoping_40 ?_
        refine lv_iload_n hx hb dX11_hoping_43 rfl (lv_at hl 1 rfl) ?_
        obtain ⟨h9, e, hf⟩ := ob hf
        refine q_callVN (As := [.ref a7, .ref a8, .int v1]) (rest := []) (st1 := []) (c_X10_about G e) B hw hM.hz hM.hc0 (k_X10_about e) (by decide) (ci := 10) rfl rfl my_X10_about mv_X10_about tw_4_157 ⟨Nat.le_of_ble_eq_true rfl, Nat.le_of_ble_eq_true rfl⟩ hM.hcs rfl hl.1 rfl rfl (Nat.le_of_ble_eq_true rfl) dX11_hoping_44 (fun H locs hw => ?_)
        refine lv_aload_n hx hb dX11_hoping_47 rfl (lv_at hl 0 rfl) ?_
        obtain ⟨a10, e, hf⟩ := ob hf
        refine q_getR e B hw fd_11_14.1 fd_11_14.2.1 fd_11_14.2.2.1 fd_11_14.2.2.2.1 fd_11_14.2.2.2.2 rfl tw_2_116 dX11_hoping_48 ?_
        refine lv_iload_n hx hb dX11_hoping_51 rfl (lv_at hl 2 rfl) ?_
        obtain ⟨⟨x11, h12, z13⟩, e, hf⟩ := ob hf
        obtain ⟨hg, hf⟩ := gd3_some hf
        refine q_callVNA (As := [.int v2]) (rest := []) (st1 := [.int x11]) (c_X0_hopeDoing G e) (mo_X0_hopeDoing e) hg B hw hM (k_X0_hopeDoing e) (by decide) (ci := 0) rfl rfl my_X0_hopeDoing mv_X0_hopeDoing tw_5_145 ⟨Nat.le_of_ble_eq_true rfl, Nat.le_of_ble_eq_true rfl⟩ rfl hl.1 rfl rfl (Nat.le_of_ble_eq_true rfl) dX11_hoping_52 (fun H locs hw hM => ?_)
        obtain ⟨rfl, rfl, rfl⟩ := so3 hf
        exact q_iret B hw hM.hz hM.hc0 hr hlk dX11_hoping_55
      · have hf := (if_neg c5).symm.trans hf
        exact w_X11_hoping_26 G B hr hlk  z h _ _ _ hw hM (lv_sub hl [] rfl) hf
  · have hf := (if_pos c3).symm.trans hf
    refine lv_iconst (v := 2) hx hb dX11_hoping_11 (by decide) ?_
    obtain ⟨x14, e, hf⟩ := ob hf
    refine q_callS (As := [.int 2]) (rest := []) (st1 := [.int x14]) (c_X11_refused G e) B hw hM.hz hM.hc0 my_X11_refused mv_X11_refused tw_2_155 ⟨Nat.le_of_ble_eq_true rfl, Nat.le_of_ble_eq_true rfl⟩ hM.hcs rfl hl.1 rfl rfl (Nat.le_of_ble_eq_true rfl) dX11_hoping_12 (fun H locs hw => ?_)
    obtain ⟨rfl, rfl, rfl⟩ := so3 hf
    exact q_iret B hw hM.hz hM.hc0 hr hlk dX11_hoping_15
/-! SecondLife$Reader.readHead()Z -/
def f_X6_readHead (n : Nat) (z : Sh) (h : Hp) (v0 : Nat) : Option (Int32 × Hp) :=
  if z.K v0 = 6 then
    (f_X6_take n z h v0 (z.st 11)).bind fun (x1, h2) =>
    if x1 = 0 then
      some (0, h2)
    else
      (f_X6_take n z h2 v0 (z.st 12)).bind fun (x4, h5) =>
      if x4 = 0 then
        some (0, h5)
      else
        (gR z h5 6 v0 8).bind fun a7 =>
        (f_X6_takeNumber n z h5 v0 1 6).bind fun (x8, h9) =>
        (pI z h9 8 a7 0 x8).bind fun h10 =>
        (gI z h10 6 v0 0).bind fun x11 =>
        if x11 = 0 then
          (f_X6_take n z h10 v0 (z.st 13)).bind fun (x13, h14) =>
          if x13 = 0 then
            some (0, h14)
          else
            (gR z h14 6 v0 8).bind fun a16 =>
            (f_X6_takeNumber n z h14 v0 1 4).bind fun (x17, h18) =>
            (pI z h18 8 a16 1 x17).bind fun h19 =>
            (gI z h19 6 v0 0).bind fun x20 =>
            if x20 = 0 then
              (f_X6_endLine n z h19 v0).bind fun (x22, h23) =>
              if x22 = 0 then
                some (0, h23)
              else
                some (1, h23)
            else
              some (0, h19)
        else
          some (0, h10)
  else none
theorem k_X6_readHead {n : Nat} {z : Sh} {h : Hp} {v0 : Nat} {w : Int32 × Hp} (hf : f_X6_readHead n z h v0 = some w) : z.K v0 = 6 := by
  unfold f_X6_readHead at hf
  exact (if_some hf).1
set_option maxHeartbeats 4000000 in
theorem c_X6_readHead {l : Launch} {s0 : State} {E : Ev} (G : Gl s0 E) {n : Nat} {z : Sh} {h : Hp} {v0 : Nat} {r : Int32} {h' : Hp} (hf : f_X6_readHead n z h v0 = some (r, h')) : Ct l s0 E yX6_readHead cX6_readHead 1 (some .boolean) 7 149 [.ref v0] z h h' (some (.int r)) := by
  refine Ct.of G (by decide) (Nat.le_of_ble_eq_true rfl) ?_
  intro p e s m below meth c ls B hw hz hc0 hr hlk hl
  have B : Bd p s0 s E m c cX6_readHead 1 RX6 := B
  have hx := B.1
  have hb := B.2.1
  have hl : lv_has ls 1 [(0, .ref v0)] := hl
  unfold f_X6_readHead at hf
  obtain ⟨_, hf⟩ := if_some hf
  refine lv_aload_n hx hb dX6_readHead_0 rfl (lv_at hl 0 rfl) ?_
  refine q_ldcS (tx := "town") G (i := 11) (List.mem_of_getElem? (i := 1) (by decide +kernel)) B hw dX6_readHead_1 ?_
  obtain ⟨⟨x1, h2⟩, e, hf⟩ := ob hf
  refine q_callV (As := [.ref (z.st 11)]) (rest := []) (st1 := [.int x1]) (c_X6_take G e) B hw hz hc0 (k_X6_take e) (by decide) (ci := 6) rfl rfl my_X6_take mv_X6_take tw_3_42 ⟨Nat.le_of_ble_eq_true rfl, Nat.le_of_ble_eq_true rfl⟩ ⟨Nat.zero_le _, Nat.zero_le _⟩ rfl hl.1 rfl rfl (Nat.le_of_ble_eq_true rfl) dX6_readHead_3 (fun H locs hw => ?_)
  refine lv_if_eq (tgt := 18) hx hb dX6_readHead_6 (by decide) (fun c3 => ?_) (fun c3 => ?_)
  · have hf := (if_pos c3).symm.trans hf
    refine lv_iconst (v := 0) hx hb dX6_readHead_18 (by decide) ?_
    obtain ⟨rfl, rfl⟩ := so2 hf
    exact q_zret (Or.inl rfl) B hw hz hc0 hr hlk dX6_readHead_19
  · have hf := (if_neg c3).symm.trans hf
    refine lv_aload_n hx hb dX6_readHead_9 rfl (lv_at hl 0 rfl) ?_
    refine q_ldcS (tx := "years") G (i := 12) (List.mem_of_getElem? (i := 2) (by decide +kernel)) B hw dX6_readHead_10 ?_
    obtain ⟨⟨x4, h5⟩, e, hf⟩ := ob hf
    refine q_callV (As := [.ref (z.st 12)]) (rest := []) (st1 := [.int x4]) (c_X6_take G e) B hw hz hc0 (k_X6_take e) (by decide) (ci := 6) rfl rfl my_X6_take mv_X6_take tw_3_42 ⟨Nat.le_of_ble_eq_true rfl, Nat.le_of_ble_eq_true rfl⟩ ⟨Nat.zero_le _, Nat.zero_le _⟩ rfl hl.1 rfl rfl (Nat.le_of_ble_eq_true rfl) dX6_readHead_12 (fun H locs hw => ?_)
    refine lv_if_ne (tgt := 20) hx hb dX6_readHead_15 (by decide) (fun c6 => ?_) (fun c6 => ?_)
    · have hf := (if_neg c6).symm.trans hf
      refine lv_aload_n hx hb dX6_readHead_20 rfl (lv_at hl 0 rfl) ?_
      obtain ⟨a7, e, hf⟩ := ob hf
      refine q_getR e B hw fd_6_8.1 fd_6_8.2.1 fd_6_8.2.2.1 fd_6_8.2.2.2.1 fd_6_8.2.2.2.2 rfl tw_1_113 dX6_readHead_21 ?_
      refine lv_aload_n hx hb dX6_readHead_24 rfl (lv_at hl 0 rfl) ?_
      refine lv_iconst (v := 1) hx hb dX6_readHead_25 (by decide) ?_
      refine lv_bipush (v := 6) hx hb dX6_readHead_26 (by decide) ?_
      obtain ⟨⟨x8, h9⟩, e, hf⟩ := ob hf
      refine q_callV (As := [.int 1, .int 6]) (rest := [.ref a7]) (st1 := [.int x8, .ref a7]) (c_X6_takeNumber G e) B hw hz hc0 (k_X6_takeNumber e) (by decide) (ci := 6) rfl rfl my_X6_takeNumber mv_X6_takeNumber tw_3_76 ⟨Nat.le_of_ble_eq_true rfl, Nat.le_of_ble_eq_true rfl⟩ ⟨Nat.zero_le _, Nat.zero_le _⟩ rfl hl.1 rfl rfl (Nat.le_of_ble_eq_true rfl) dX6_readHead_28 (fun H locs hw => ?_)
      obtain ⟨h10, e, hf⟩ := ob hf
      refine q_putIN e B hw fd_8_0.1 fd_8_0.2.1 fd_8_0.2.2.1 fd_8_0.2.2.2.1 fd_8_0.2.2.2.2 rfl rfl (tyX8_ok 0 (by decide)) tyX8 tyX8_ok nmX8 tw_1_49 dX6_readHead_31 (fun H locs hw => ?_)
      refine lv_aload_n hx hb dX6_readHead_34 rfl (lv_at hl 0 rfl) ?_
      obtain ⟨x11, e, hf⟩ := ob hf
      refine q_getI e B hw fd_6_0.1 fd_6_0.2.1 fd_6_0.2.2.1 fd_6_0.2.2.2.1 fd_6_0.2.2.2.2 rfl tw_1_103 dX6_readHead_35 ?_
      refine lv_if_ne (tgt := 50) hx hb dX6_readHead_38 (by decide) (fun c12 => ?_) (fun c12 => ?_)
      · have hf := (if_neg c12).symm.trans hf
        refine lv_iconst (v := 0) hx hb dX6_readHead_50 (by decide) ?_
        obtain ⟨rfl, rfl⟩ := so2 hf
        exact q_zret (Or.inl rfl) B hw hz hc0 hr hlk dX6_readHead_51
      · have hf := (if_pos c12).symm.trans hf
        refine lv_aload_n hx hb dX6_readHead_41 rfl (lv_at hl 0 rfl) ?_
        refine q_ldcS (tx := "trades") G (i := 13) (List.mem_of_getElem? (i := 3) (by decide +kernel)) B hw dX6_readHead_42 ?_
        obtain ⟨⟨x13, h14⟩, e, hf⟩ := ob hf
        refine q_callV (As := [.ref (z.st 13)]) (rest := []) (st1 := [.int x13]) (c_X6_take G e) B hw hz hc0 (k_X6_take e) (by decide) (ci := 6) rfl rfl my_X6_take mv_X6_take tw_3_42 ⟨Nat.le_of_ble_eq_true rfl, Nat.le_of_ble_eq_true rfl⟩ ⟨Nat.zero_le _, Nat.zero_le _⟩ rfl hl.1 rfl rfl (Nat.le_of_ble_eq_true rfl) dX6_readHead_44 (fun H locs hw => ?_)
        refine lv_if_ne (tgt := 52) hx hb dX6_readHead_47 (by decide) (fun c15 => ?_) (fun c15 => ?_)
        · have hf := (if_neg c15).symm.trans hf
          refine lv_aload_n hx hb dX6_readHead_52 rfl (lv_at hl 0 rfl) ?_
          obtain ⟨a16, e, hf⟩ := ob hf
          refine q_getR e B hw fd_6_8.1 fd_6_8.2.1 fd_6_8.2.2.1 fd_6_8.2.2.2.1 fd_6_8.2.2.2.2 rfl tw_1_113 dX6_readHead_53 ?_
          refine lv_aload_n hx hb dX6_readHead_56 rfl (lv_at hl 0 rfl) ?_
          refine lv_iconst (v := 1) hx hb dX6_readHead_57 (by decide) ?_
          refine lv_iconst (v := 4) hx hb dX6_readHead_58 (by decide) ?_
          obtain ⟨⟨x17, h18⟩, e, hf⟩ := ob hf
          refine q_callV (As := [.int 1, .int 4]) (rest := [.ref a16]) (st1 := [.int x17, .ref a16]) (c_X6_takeNumber G e) B hw hz hc0 (k_X6_takeNumber e) (by decide) (ci := 6) rfl rfl my_X6_takeNumber mv_X6_takeNumber tw_3_76 ⟨Nat.le_of_ble_eq_true rfl, Nat.le_of_ble_eq_true rfl⟩ ⟨Nat.zero_le _, Nat.zero_le _⟩ rfl hl.1 rfl rfl (Nat.le_of_ble_eq_true rfl) dX6_readHead_59 (fun H locs hw => ?_)
          obtain ⟨h19, e, hf⟩ := ob hf
          refine q_putIN e B hw fd_8_1.1 fd_8_1.2.1 fd_8_1.2.2.1 fd_8_1.2.2.2.1 fd_8_1.2.2.2.2 rfl rfl (tyX8_ok 1 (by decide)) tyX8 tyX8_ok nmX8 tw_1_56 dX6_readHead_62 (fun H locs hw => ?_)
          refine lv_aload_n hx hb dX6_readHead_65 rfl (lv_at hl 0 rfl) ?_
          obtain ⟨x20, e, hf⟩ := ob hf
          refine q_getI e B hw fd_6_0.1 fd_6_0.2.1 fd_6_0.2.2.1 fd_6_0.2.2.2.1 fd_6_0.2.2.2.2 rfl tw_1_103 dX6_readHead_66 ?_
          refine lv_if_ne (tgt := 83) hx hb dX6_readHead_69 (by decide) (fun c21 => ?_) (fun c21 => ?_)
          · have hf := (if_neg c21).symm.trans hf
            refine lv_iconst (v := 0) hx hb dX6_readHead_83 (by decide) ?_
            obtain ⟨rfl, rfl⟩ := so2 hf
            exact q_zret (Or.inl rfl) B hw hz hc0 hr hlk dX6_readHead_84
          · have hf := (if_pos c21).symm.trans hf
            refine lv_aload_n hx hb dX6_readHead_72 rfl (lv_at hl 0 rfl) ?_
            obtain ⟨⟨x22, h23⟩, e, hf⟩ := ob hf
            refine q_callV (As := []) (rest := []) (st1 := [.int x22]) (c_X6_endLine G e) B hw hz hc0 (k_X6_endLine e) (by decide) (ci := 6) rfl rfl my_X6_endLine mv_X6_endLine tw_3_81 ⟨Nat.le_of_ble_eq_true rfl, Nat.le_of_ble_eq_true rfl⟩ ⟨Nat.zero_le _, Nat.zero_le _⟩ rfl hl.1 rfl rfl (Nat.le_of_ble_eq_true rfl) dX6_readHead_73 (fun H locs hw => ?_)
            refine lv_if_eq (tgt := 83) hx hb dX6_readHead_76 (by decide) (fun c24 => ?_) (fun c24 => ?_)
            · have hf := (if_pos c24).symm.trans hf
              refine lv_iconst (v := 0) hx hb dX6_readHead_83 (by decide) ?_
              obtain ⟨rfl, rfl⟩ := so2 hf
              exact q_zret (Or.inl rfl) B hw hz hc0 hr hlk dX6_readHead_84
            · have hf := (if_neg c24).symm.trans hf
              refine lv_iconst (v := 1) hx hb dX6_readHead_79 (by decide) ?_
              refine lv_goto (tgt := 84) hx hb dX6_readHead_80 (by decide) ?_
              obtain ⟨rfl, rfl⟩ := so2 hf
              exact q_zret (Or.inr rfl) B hw hz hc0 hr hlk dX6_readHead_84
        · have hf := (if_pos c15).symm.trans hf
          refine lv_iconst (v := 0) hx hb dX6_readHead_50 (by decide) ?_
          obtain ⟨rfl, rfl⟩ := so2 hf
          exact q_zret (Or.inl rfl) B hw hz hc0 hr hlk dX6_readHead_51
    · have hf := (if_pos c6).symm.trans hf
      refine lv_iconst (v := 0) hx hb dX6_readHead_18 (by decide) ?_
      obtain ⟨rfl, rfl⟩ := so2 hf
      exact q_zret (Or.inl rfl) B hw hz hc0 hr hlk dX6_readHead_19
/-! SecondLife$Reader.readLaw(Z)Z -/
def f_X6_readLaw (n : Nat) (z : Sh) (h : Hp) (v0 : Nat) (v1 : Int32) : Option (Int32 × Hp × Sh) :=
  if z.K v0 = 6 then
    gd3 z <|
    (f_X6_next n z h v0).bind fun h1 =>
    (pZ z h1 6 v0 9 v1).bind fun h2 =>
    (pI z h2 6 v0 11 0).bind fun h3 =>
    (f_X6_take n z h3 v0 (z.st 22)).bind fun (x4, h5) =>
    if x4 = 0 then
      some (0, h5, z)
    else
      (f_X6_readSum n z h5 v0 0).bind fun (x7, h8) =>
      if x7 = 0 then
        some (0, h8, z)
      else
        (gR z h8 6 v0 10).bind fun a10 =>
        (gI z h8 6 v0 11).bind fun x11 =>
        (f_J7_copyOf_59c91 z h8 a10 x11).bind fun (o12, h13, z14) =>
        gd3 z14 <|
        (match o12 with
        | none =>
          none
        | some a15 =>
          if v1 = 0 then
            (gR z14 h13 6 v0 8).bind fun a17 =>
            (pR z14 h13 8 a17 9 (some a15)).bind fun h18 =>
            some (1, h18, z14)
          else
            (gR z14 h13 6 v0 8).bind fun a19 =>
            (pR z14 h13 8 a19 8 (some a15)).bind fun h20 =>
            some (1, h20, z14))
  else none
theorem k_X6_readLaw {n : Nat} {z : Sh} {h : Hp} {v0 : Nat} {v1 : Int32} {w : Int32 × Hp × Sh} (hf : f_X6_readLaw n z h v0 v1 = some w) : z.K v0 = 6 := by
  unfold f_X6_readLaw at hf
  exact (if_some hf).1
theorem mo_X6_readLaw {n : Nat} {z : Sh} {h : Hp} {v0 : Nat} {v1 : Int32} {r : Int32} {h' : Hp} {zE : Sh} (hf : f_X6_readLaw n z h v0 v1 = some (r, h', zE)) : z.sz ≤ zE.sz ∧ z.sl ≤ zE.sl := by
  unfold f_X6_readLaw at hf
  exact (gd3_some (if_some hf).2).1
set_option maxHeartbeats 4000000 in
theorem c_X6_readLaw {l : Launch} {s0 : State} {E : Ev} (G : Gl s0 E) {n : Nat} {z : Sh} {h : Hp} {v0 : Nat} {v1 : Int32} {r : Int32} {h' : Hp} {zE : Sh} (hf : f_X6_readLaw n z h v0 v1 = some (r, h', zE)) : Ca l s0 E yX6_readLaw cX6_readLaw 3 (some .boolean) 68 3754 [.ref v0, .int v1] z zE h h' (some (.int r)) := by
  refine Ca.of G (by decide +kernel) (Nat.le_of_ble_eq_true rfl) (mo_X6_readLaw hf) ?_
  intro p e s m below meth c ls B hw hM hr hlk hnm0 hl
  have B : Bd p s0 s E m c cX6_readLaw 3 RX6 := B
  have hx := B.1
  have hb := B.2.1
  have hl : lv_has ls 3 [(0, .ref v0), (1, .int v1)] := hl
  unfold f_X6_readLaw at hf
  obtain ⟨_, hf⟩ := if_some hf
  obtain ⟨_, hf⟩ := gd3_some hf
  refine lv_aload_n hx hb dX6_readLaw_0 rfl (lv_at hl 0 rfl) ?_
  obtain ⟨h1, e, hf⟩ := ob hf
  refine q_callV (As := []) (rest := []) (st1 := []) (c_X6_next G e) B hw hM.hz hM.hc0 (k_X6_next e) (by decide) (ci := 6) rfl rfl my_X6_next mv_X6_next tw_2_171 ⟨Nat.le_of_ble_eq_true rfl, Nat.le_of_ble_eq_true rfl⟩ hM.hcs rfl hl.1 rfl rfl (Nat.le_of_ble_eq_true rfl) dX6_readLaw_1 (fun H locs hw => ?_)
  refine lv_aload_n hx hb dX6_readLaw_4 rfl (lv_at hl 0 rfl) ?_
  refine lv_iload_n hx hb dX6_readLaw_5 rfl (lv_at hl 1 rfl) ?_
  obtain ⟨h2, e, hf⟩ := ob hf
  refine q_putZ e B hw fd_6_9.1 fd_6_9.2.1 fd_6_9.2.2.1 fd_6_9.2.2.2.1 fd_6_9.2.2.2.2 rfl rfl (tyX6_ok 9 (by decide)) tyX6 tyX6_ok nmX6 tw_1_114 dX6_readLaw_6 (fun H locs hw => ?_)
  refine lv_aload_n hx hb dX6_readLaw_9 rfl (lv_at hl 0 rfl) ?_
  refine lv_iconst (v := 0) hx hb dX6_readLaw_10 (by decide) ?_
  obtain ⟨h3, e, hf⟩ := ob hf
  refine q_putI e B hw fd_6_11.1 fd_6_11.2.1 fd_6_11.2.2.1 fd_6_11.2.2.2.1 fd_6_11.2.2.2.2 rfl rfl (tyX6_ok 11 (by decide)) tyX6 tyX6_ok nmX6 tw_1_116 dX6_readLaw_11 (fun H locs hw => ?_)
  refine lv_aload_n hx hb dX6_readLaw_14 rfl (lv_at hl 0 rfl) ?_
  refine q_ldcS (tx := ":") G (i := 22) (List.mem_of_getElem? (i := 12) (by decide +kernel)) B hw dX6_readLaw_15 ?_
  obtain ⟨⟨x4, h5⟩, e, hf⟩ := ob hf
  refine q_callV (As := [.ref (z.st 22)]) (rest := []) (st1 := [.int x4]) (c_X6_take G e) B hw hM.hz hM.hc0 (k_X6_take e) (by decide) (ci := 6) rfl rfl my_X6_take mv_X6_take tw_3_42 ⟨Nat.le_of_ble_eq_true rfl, Nat.le_of_ble_eq_true rfl⟩ hM.hcs rfl hl.1 rfl rfl (Nat.le_of_ble_eq_true rfl) dX6_readLaw_17 (fun H locs hw => ?_)
  refine lv_if_eq (tgt := 31) hx hb dX6_readLaw_20 (by decide) (fun c6 => ?_) (fun c6 => ?_)
  · have hf := (if_pos c6).symm.trans hf
    refine lv_iconst (v := 0) hx hb dX6_readLaw_31 (by decide) ?_
    obtain ⟨rfl, rfl, rfl⟩ := so3 hf
    exact q_zret (Or.inl rfl) B hw hM.hz hM.hc0 hr hlk dX6_readLaw_32
  · have hf := (if_neg c6).symm.trans hf
    refine lv_aload_n hx hb dX6_readLaw_23 rfl (lv_at hl 0 rfl) ?_
    refine lv_iconst (v := 0) hx hb dX6_readLaw_24 (by decide) ?_
    obtain ⟨⟨x7, h8⟩, e, hf⟩ := ob hf
    refine q_callV (As := [.int 0]) (rest := []) (st1 := [.int x7]) (c_X6_readSum G e) B hw hM.hz hM.hc0 (k_X6_readSum e) (by decide) (ci := 6) rfl rfl my_X6_readSum mv_X6_readSum tw_3_110 ⟨Nat.le_of_ble_eq_true rfl, Nat.le_of_ble_eq_true rfl⟩ hM.hcs rfl hl.1 rfl rfl (Nat.le_of_ble_eq_true rfl) dX6_readLaw_25 (fun H locs hw => ?_)
    refine lv_if_ne (tgt := 33) hx hb dX6_readLaw_28 (by decide) (fun c9 => ?_) (fun c9 => ?_)
    · have hf := (if_neg c9).symm.trans hf
      refine lv_aload_n hx hb dX6_readLaw_33 rfl (lv_at hl 0 rfl) ?_
      obtain ⟨a10, e, hf⟩ := ob hf
      refine q_getR e B hw fd_6_10.1 fd_6_10.2.1 fd_6_10.2.2.1 fd_6_10.2.2.2.1 fd_6_10.2.2.2.2 rfl tw_1_115 dX6_readLaw_34 ?_
      refine lv_aload_n hx hb dX6_readLaw_37 rfl (lv_at hl 0 rfl) ?_
      obtain ⟨x11, e, hf⟩ := ob hf
      refine q_getI e B hw fd_6_11.1 fd_6_11.2.1 fd_6_11.2.2.1 fd_6_11.2.2.2.1 fd_6_11.2.2.2.2 rfl tw_1_116 dX6_readLaw_38 ?_
      obtain ⟨⟨o12, h13, z14⟩, e, hf⟩ := ob hf
      obtain ⟨hg, hf⟩ := gd3_some hf
      refine q_callSA (As := [.ref a10, .int x11]) (rest := []) (st1 := [va_rf o12]) (c_J7_copyOf_59c91 G e) (mo_J7_copyOf_59c91 e) hg B hw hM my_J7_copyOf_59c91 mv_J7_copyOf_59c91 tw_3_169 ⟨Nat.le_of_ble_eq_true rfl, Nat.le_of_ble_eq_true rfl⟩ rfl hl.1 rfl rfl (Nat.le_of_ble_eq_true rfl) dX6_readLaw_41 (fun H locs hw hM => ?_)
      rcases o12 with _ | a15
      · cases hf
      · refine lv_astore_n (lv' := [(2, .ref a15), (0, .ref v0), (1, .int v1)]) hx hb dX6_readLaw_44 rfl hl (by decide) rfl (fun ls hl => ?_)
        refine lv_iload_n hx hb dX6_readLaw_45 rfl (lv_at hl 2 rfl) ?_
        refine lv_if_eq (tgt := 60) hx hb dX6_readLaw_46 (by decide) (fun c16 => ?_) (fun c16 => ?_)
        · have hf := (if_pos c16).symm.trans hf
          refine lv_aload_n hx hb dX6_readLaw_60 rfl (lv_at hl 1 rfl) ?_
          obtain ⟨a17, e, hf⟩ := ob hf
          refine q_getR e B hw fd_6_8.1 fd_6_8.2.1 fd_6_8.2.2.1 fd_6_8.2.2.2.1 fd_6_8.2.2.2.2 rfl tw_1_113 dX6_readLaw_61 ?_
          refine lv_aload_n hx hb dX6_readLaw_64 rfl (lv_at hl 0 rfl) ?_
          obtain ⟨h18, e, hf⟩ := ob hf
          refine q_putRN e B hw fd_8_9.1 fd_8_9.2.1 fd_8_9.2.2.1 fd_8_9.2.2.2.1 fd_8_9.2.2.2.2 rfl rfl (tyX8_ok 9 (by decide)) (Or.inr ⟨_, rfl⟩) tyX8 tyX8_ok nmX8 tw_1_79 dX6_readLaw_65 (fun H locs hw => ?_)
          refine lv_iconst (v := 1) hx hb dX6_readLaw_68 (by decide) ?_
          obtain ⟨rfl, rfl, rfl⟩ := so3 hf
          exact q_zret (Or.inr rfl) B hw hM.hz hM.hc0 hr hlk dX6_readLaw_69
        · have hf := (if_neg c16).symm.trans hf
          refine lv_aload_n hx hb dX6_readLaw_49 rfl (lv_at hl 1 rfl) ?_
          obtain ⟨a19, e, hf⟩ := ob hf
          refine q_getR e B hw fd_6_8.1 fd_6_8.2.1 fd_6_8.2.2.1 fd_6_8.2.2.2.1 fd_6_8.2.2.2.2 rfl tw_1_113 dX6_readLaw_50 ?_
          refine lv_aload_n hx hb dX6_readLaw_53 rfl (lv_at hl 0 rfl) ?_
          obtain ⟨h20, e, hf⟩ := ob hf
          refine q_putRN e B hw fd_8_8.1 fd_8_8.2.1 fd_8_8.2.2.1 fd_8_8.2.2.2.1 fd_8_8.2.2.2.2 rfl rfl (tyX8_ok 8 (by decide)) (Or.inr ⟨_, rfl⟩) tyX8 tyX8_ok nmX8 tw_1_76 dX6_readLaw_54 (fun H locs hw => ?_)
          refine lv_goto (tgt := 68) hx hb dX6_readLaw_57 (by decide) ?_
          refine lv_iconst (v := 1) hx hb dX6_readLaw_68 (by decide) ?_
          obtain ⟨rfl, rfl, rfl⟩ := so3 hf
          exact q_zret (Or.inr rfl) B hw hM.hz hM.hc0 hr hlk dX6_readLaw_69
    · have hf := (if_pos c9).symm.trans hf
      refine lv_iconst (v := 0) hx hb dX6_readLaw_31 (by decide) ?_
      obtain ⟨rfl, rfl, rfl⟩ := so3 hf
      exact q_zret (Or.inl rfl) B hw hM.hz hM.hc0 hr hlk dX6_readLaw_32
/-! SecondLife$Reader.readLine()Z -/
def f_X6_readLine_142 (n : Nat)  (z : Sh) (h : Hp) (v0 : Nat) : Option (Int32 × Hp × Sh) :=
  (f_X6_is n z h v0 (z.st 20)).bind fun x1 =>
  (f_X6_readLaw n z h v0 x1).bind fun (x2, h3, z4) =>
  gd3 z4 <|
  if x2 = 0 then
    some (0, h3, z4)
  else
    (f_X6_endLine n z4 h3 v0).bind fun (x6, h7) =>
    if x6 = 0 then
      some (0, h7, z4)
    else
      some (1, h7, z4)
def f_X6_readLine (n : Nat) (z : Sh) (h : Hp) (v0 : Nat) : Option (Int32 × Hp × Sh) :=
  if z.K v0 = 6 then
    gd3 z <|
    (f_X6_is n z h v0 (z.st 15)).bind fun x1 =>
    if x1 = 0 then
      (f_X6_is n z h v0 (z.st 18)).bind fun x3 =>
      if x3 = 0 then
        (f_X6_is n z h v0 (z.st 19)).bind fun x5 =>
        if x5 = 0 then
          (f_X6_is n z h v0 (z.st 20)).bind fun x7 =>
          if x7 = 0 then
            (f_X6_is n z h v0 (z.st 21)).bind fun x9 =>
            if x9 = 0 then
              (f_X6_wrong z h v0 2).bind fun (x11, h12) =>
              (bz x11).bind fun x13 =>
              some (x13, h12, z)
            else
              f_X6_readLine_142 n z h v0
          else
            f_X6_readLine_142 n z h v0
        else
          (f_X6_next n z h v0).bind fun h14 =>
          (gR z h14 6 v0 8).bind fun a15 =>
          (f_X6_takeNumber n z h14 v0 0 10).bind fun (x16, h17) =>
          (pI z h17 8 a15 4 x16).bind fun h18 =>
          (gI z h18 6 v0 0).bind fun x19 =>
          if x19 = 0 then
            (f_X6_endLine n z h18 v0).bind fun (x21, h22) =>
            if x21 = 0 then
              some (0, h22, z)
            else
              some (1, h22, z)
          else
            some (0, h18, z)
      else
        (f_X6_next n z h v0).bind fun h24 =>
        (gR z h24 6 v0 8).bind fun a25 =>
        (f_X6_takeNumber n z h24 v0 0 999).bind fun (x26, h27) =>
        (pI z h27 8 a25 3 x26).bind fun h28 =>
        (gI z h28 6 v0 0).bind fun x29 =>
        if x29 = 0 then
          (f_X6_endLine n z h28 v0).bind fun (x31, h32) =>
          if x31 = 0 then
            some (0, h32, z)
          else
            some (1, h32, z)
        else
          some (0, h28, z)
    else
      (f_X6_readPerson n z h v0).bind fun (x34, h35) =>
      if x34 = 0 then
        some (0, h35, z)
      else
        (f_X6_endLine n z h35 v0).bind fun (x37, h38) =>
        if x37 = 0 then
          some (0, h38, z)
        else
          some (1, h38, z)
  else none
theorem k_X6_readLine {n : Nat} {z : Sh} {h : Hp} {v0 : Nat} {w : Int32 × Hp × Sh} (hf : f_X6_readLine n z h v0 = some w) : z.K v0 = 6 := by
  unfold f_X6_readLine at hf
  exact (if_some hf).1
theorem mo_X6_readLine {n : Nat} {z : Sh} {h : Hp} {v0 : Nat} {r : Int32} {h' : Hp} {zE : Sh} (hf : f_X6_readLine n z h v0 = some (r, h', zE)) : z.sz ≤ zE.sz ∧ z.sl ≤ zE.sl := by
  unfold f_X6_readLine at hf
  exact (gd3_some (if_some hf).2).1
set_option maxHeartbeats 4000000 in
theorem w_X6_readLine_142 {p : Program} {l : Launch} {e : Env} {s : State} {m : MethodId} {args : Array Value} {below : List Frame} {meth : Method} {c : Code} {s0 : State} {E : Ev} {z0 : Sh} {n : Nat} {r : Int32} {h' : Hp} {zE : Sh} (G : Gl s0 E) (B : Bd p s0 s E m c cX6_readLine 1 RX6) (hr : meth.sig.returnType = (some .boolean)) (hlk : meth.locks = false) : ∀ (z : Sh) (h : Hp) (v0 : Nat) (H : Heap) (locs : List Loc) (ls : Array Slot), Pw s0 s E z h H locs → Mo s0 s z0 z zE → lv_has ls 1 [(0, .ref v0)] → f_X6_readLine_142 n z h v0 = some (r, h', zE) → W p l e (rmA 69 3776 z0 zE) s m args below meth c H locs (z.sz - z0.sz) (z.sl - z0.sl) (Zt below s0 E zE h' (some (.int r)) args s (zE.sz - z0.sz) (zE.sl - z0.sl)) (F0 m 142 ls []) := by
  have hx := B.1
  have hb := B.2.1
  intro z h v0 H locs ls hw hM hl hf
  unfold f_X6_readLine_142 at hf
  refine lv_aload_n hx hb dX6_readLine_142 rfl (lv_at hl 0 rfl) ?_
  refine lv_aload_n hx hb dX6_readLine_143 rfl (lv_at hl 0 rfl) ?_
  refine q_ldcS (tx := "worth") G (i := 20) (List.mem_of_getElem? (i := 10) (by decide +kernel)) B hw dX6_readLine_144 ?_
  obtain ⟨x1, e, hf⟩ := ob hf
  refine q_callV (As := [.ref (z.st 20)]) (rest := [.ref v0]) (st1 := [.int x1, .ref v0]) (c_X6_is G e) B hw hM.hz hM.hc0 (k_X6_is e) (by decide) (ci := 6) rfl rfl my_X6_is mv_X6_is tw_3_46 ⟨Nat.le_of_ble_eq_true rfl, Nat.le_of_ble_eq_true rfl⟩ hM.hcs rfl hl.1 rfl rfl (Nat.le_of_ble_eq_true rfl) dX6_readLine_146 (fun H locs hw => ?_)
  obtain ⟨⟨x2, h3, z4⟩, e, hf⟩ := ob hf
  obtain ⟨hg, hf⟩ := gd3_some hf
  refine q_callVA (As := [.int x1]) (rest := []) (st1 := [.int x2]) (c_X6_readLaw G e) (mo_X6_readLaw e) hg B hw hM (k_X6_readLaw e) (by decide) (ci := 6) rfl rfl my_X6_readLaw mv_X6_readLaw tw_3_105 ⟨Nat.le_of_ble_eq_true rfl, Nat.le_of_ble_eq_true rfl⟩ rfl hl.1 rfl rfl (Nat.le_of_ble_eq_true rfl) dX6_readLine_149 (fun H locs hw hM => ?_)
  refine lv_if_eq (tgt := 166) hx hb dX6_readLine_152 (by decide) (fun c5 => ?_) (fun c5 => ?_)
  · have hf := (if_pos c5).symm.trans hf
    refine lv_iconst (v := 0) hx hb dX6_readLine_166 (by decide) ?_
    obtain ⟨rfl, rfl, rfl⟩ := so3 hf
    exact q_zret (Or.inl rfl) B hw hM.hz hM.hc0 hr hlk dX6_readLine_167
  · have hf := (if_neg c5).symm.trans hf
    refine lv_aload_n hx hb dX6_readLine_155 rfl (lv_at hl 0 rfl) ?_
    obtain ⟨⟨x6, h7⟩, e, hf⟩ := ob hf
    refine q_callV (As := []) (rest := []) (st1 := [.int x6]) (c_X6_endLine G e) B hw hM.hz hM.hc0 (k_X6_endLine e) (by decide) (ci := 6) rfl rfl my_X6_endLine mv_X6_endLine tw_3_81 ⟨Nat.le_of_ble_eq_true rfl, Nat.le_of_ble_eq_true rfl⟩ hM.hcs rfl hl.1 rfl rfl (Nat.le_of_ble_eq_true rfl) dX6_readLine_156 (fun H locs hw => ?_)
    refine lv_if_eq (tgt := 166) hx hb dX6_readLine_159 (by decide) (fun c8 => ?_) (fun c8 => ?_)
    · have hf := (if_pos c8).symm.trans hf
      refine lv_iconst (v := 0) hx hb dX6_readLine_166 (by decide) ?_
      obtain ⟨rfl, rfl, rfl⟩ := so3 hf
      exact q_zret (Or.inl rfl) B hw hM.hz hM.hc0 hr hlk dX6_readLine_167
    · have hf := (if_neg c8).symm.trans hf
      refine lv_iconst (v := 1) hx hb dX6_readLine_162 (by decide) ?_
      refine lv_goto (tgt := 167) hx hb dX6_readLine_163 (by decide) ?_
      obtain ⟨rfl, rfl, rfl⟩ := so3 hf
      exact q_zret (Or.inr rfl) B hw hM.hz hM.hc0 hr hlk dX6_readLine_167
set_option maxHeartbeats 4000000 in
theorem c_X6_readLine {l : Launch} {s0 : State} {E : Ev} (G : Gl s0 E) {n : Nat} {z : Sh} {h : Hp} {v0 : Nat} {r : Int32} {h' : Hp} {zE : Sh} (hf : f_X6_readLine n z h v0 = some (r, h', zE)) : Ca l s0 E yX6_readLine cX6_readLine 1 (some .boolean) 69 3776 [.ref v0] z zE h h' (some (.int r)) := by
  refine Ca.of G (by decide +kernel) (Nat.le_of_ble_eq_true rfl) (mo_X6_readLine hf) ?_
  intro p e s m below meth c ls B hw hM hr hlk hnm0 hl
  have B : Bd p s0 s E m c cX6_readLine 1 RX6 := B
  have hx := B.1
  have hb := B.2.1
  have hl : lv_has ls 1 [(0, .ref v0)] := hl
  unfold f_X6_readLine at hf
  obtain ⟨_, hf⟩ := if_some hf
  obtain ⟨_, hf⟩ := gd3_some hf
  refine lv_aload_n hx hb dX6_readLine_0 rfl (lv_at hl 0 rfl) ?_
  refine q_ldcS (tx := "person") G (i := 15) (List.mem_of_getElem? (i := 5) (by decide +kernel)) B hw dX6_readLine_1 ?_
  obtain ⟨x1, e, hf⟩ := ob hf
  refine q_callV (As := [.ref (z.st 15)]) (rest := []) (st1 := [.int x1]) (c_X6_is G e) B hw hM.hz hM.hc0 (k_X6_is e) (by decide) (ci := 6) rfl rfl my_X6_is mv_X6_is tw_3_46 ⟨Nat.le_of_ble_eq_true rfl, Nat.le_of_ble_eq_true rfl⟩ hM.hcs rfl hl.1 rfl rfl (Nat.le_of_ble_eq_true rfl) dX6_readLine_3 (fun H locs hw => ?_)
  refine lv_if_eq (tgt := 29) hx hb dX6_readLine_6 (by decide) (fun c2 => ?_) (fun c2 => ?_)
  · have hf := (if_pos c2).symm.trans hf
    refine lv_aload_n hx hb dX6_readLine_29 rfl (lv_at hl 0 rfl) ?_
    refine q_ldcS (tx := "cash") G (i := 18) (List.mem_of_getElem? (i := 8) (by decide +kernel)) B hw dX6_readLine_30 ?_
    obtain ⟨x3, e, hf⟩ := ob hf
    refine q_callV (As := [.ref (z.st 18)]) (rest := []) (st1 := [.int x3]) (c_X6_is G e) B hw hM.hz hM.hc0 (k_X6_is e) (by decide) (ci := 6) rfl rfl my_X6_is mv_X6_is tw_3_46 ⟨Nat.le_of_ble_eq_true rfl, Nat.le_of_ble_eq_true rfl⟩ hM.hcs rfl hl.1 rfl rfl (Nat.le_of_ble_eq_true rfl) dX6_readLine_32 (fun H locs hw => ?_)
    refine lv_if_eq (tgt := 77) hx hb dX6_readLine_35 (by decide) (fun c4 => ?_) (fun c4 => ?_)
    · have hf := (if_pos c4).symm.trans hf
      refine lv_aload_n hx hb dX6_readLine_77 rfl (lv_at hl 0 rfl) ?_
      refine q_ldcS (tx := "dies") G (i := 19) (List.mem_of_getElem? (i := 9) (by decide +kernel)) B hw dX6_readLine_78 ?_
      obtain ⟨x5, e, hf⟩ := ob hf
      refine q_callV (As := [.ref (z.st 19)]) (rest := []) (st1 := [.int x5]) (c_X6_is G e) B hw hM.hz hM.hc0 (k_X6_is e) (by decide) (ci := 6) rfl rfl my_X6_is mv_X6_is tw_3_46 ⟨Nat.le_of_ble_eq_true rfl, Nat.le_of_ble_eq_true rfl⟩ hM.hcs rfl hl.1 rfl rfl (Nat.le_of_ble_eq_true rfl) dX6_readLine_80 (fun H locs hw => ?_)
      refine lv_if_eq (tgt := 124) hx hb dX6_readLine_83 (by decide) (fun c6 => ?_) (fun c6 => ?_)
      · have hf := (if_pos c6).symm.trans hf
        refine lv_aload_n hx hb dX6_readLine_124 rfl (lv_at hl 0 rfl) ?_
        refine q_ldcS (tx := "worth") G (i := 20) (List.mem_of_getElem? (i := 10) (by decide +kernel)) B hw dX6_readLine_125 ?_
        obtain ⟨x7, e, hf⟩ := ob hf
        refine q_callV (As := [.ref (z.st 20)]) (rest := []) (st1 := [.int x7]) (c_X6_is G e) B hw hM.hz hM.hc0 (k_X6_is e) (by decide) (ci := 6) rfl rfl my_X6_is mv_X6_is tw_3_46 ⟨Nat.le_of_ble_eq_true rfl, Nat.le_of_ble_eq_true rfl⟩ hM.hcs rfl hl.1 rfl rfl (Nat.le_of_ble_eq_true rfl) dX6_readLine_127 (fun H locs hw => ?_)
        refine lv_if_ne (tgt := 142) hx hb dX6_readLine_130 (by decide) (fun c8 => ?_) (fun c8 => ?_)
        · have hf := (if_neg c8).symm.trans hf
          exact w_X6_readLine_142 G B hr hlk  z h v0 _ _ _ hw hM (lv_sub hl [0] rfl) hf
        · have hf := (if_pos c8).symm.trans hf
          refine lv_aload_n hx hb dX6_readLine_133 rfl (lv_at hl 0 rfl) ?_
          refine q_ldcS (tx := "grows") G (i := 21) (List.mem_of_getElem? (i := 11) (by decide +kernel)) B hw dX6_readLine_134 ?_
          obtain ⟨x9, e, hf⟩ := ob hf
          refine q_callV (As := [.ref (z.st 21)]) (rest := []) (st1 := [.int x9]) (c_X6_is G e) B hw hM.hz hM.hc0 (k_X6_is e) (by decide) (ci := 6) rfl rfl my_X6_is mv_X6_is tw_3_46 ⟨Nat.le_of_ble_eq_true rfl, Nat.le_of_ble_eq_true rfl⟩ hM.hcs rfl hl.1 rfl rfl (Nat.le_of_ble_eq_true rfl) dX6_readLine_136 (fun H locs hw => ?_)
          refine lv_if_eq (tgt := 168) hx hb dX6_readLine_139 (by decide) (fun c10 => ?_) (fun c10 => ?_)
          · have hf := (if_pos c10).symm.trans hf
            refine lv_aload_n hx hb dX6_readLine_168 rfl (lv_at hl 0 rfl) ?_
            refine lv_iconst (v := 2) hx hb dX6_readLine_169 (by decide) ?_
            obtain ⟨⟨x11, h12⟩, e, hf⟩ := ob hf
            refine q_callV (As := [.int 2]) (rest := []) (st1 := [.int x11]) (c_X6_wrong G e) B hw hM.hz hM.hc0 (k_X6_wrong e) (by decide) (ci := 6) rfl rfl my_X6_wrong mv_X6_wrong tw_3_71 ⟨Nat.le_of_ble_eq_true rfl, Nat.le_of_ble_eq_true rfl⟩ hM.hcs rfl hl.1 rfl rfl (Nat.le_of_ble_eq_true rfl) dX6_readLine_170 (fun H locs hw => ?_)
            obtain ⟨x13, e, hf⟩ := ob hf
            obtain ⟨e1, e⟩ := if_some e
            cases e
            obtain ⟨rfl, rfl, rfl⟩ := so3 hf
            exact q_zret e1 B hw hM.hz hM.hc0 hr hlk dX6_readLine_173
          · have hf := (if_neg c10).symm.trans hf
            exact w_X6_readLine_142 G B hr hlk  z h v0 _ _ _ hw hM (lv_sub hl [0] rfl) hf
      · have hf := (if_neg c6).symm.trans hf
        refine lv_aload_n hx hb dX6_readLine_86 rfl (lv_at hl 0 rfl) ?_
        obtain ⟨h14, e, hf⟩ := ob hf
        refine q_callV (As := []) (rest := []) (st1 := []) (c_X6_next G e) B hw hM.hz hM.hc0 (k_X6_next e) (by decide) (ci := 6) rfl rfl my_X6_next mv_X6_next tw_2_171 ⟨Nat.le_of_ble_eq_true rfl, Nat.le_of_ble_eq_true rfl⟩ hM.hcs rfl hl.1 rfl rfl (Nat.le_of_ble_eq_true rfl) dX6_readLine_87 (fun H locs hw => ?_)
        refine lv_aload_n hx hb dX6_readLine_90 rfl (lv_at hl 0 rfl) ?_
        obtain ⟨a15, e, hf⟩ := ob hf
        refine q_getR e B hw fd_6_8.1 fd_6_8.2.1 fd_6_8.2.2.1 fd_6_8.2.2.2.1 fd_6_8.2.2.2.2 rfl tw_1_113 dX6_readLine_91 ?_
        refine lv_aload_n hx hb dX6_readLine_94 rfl (lv_at hl 0 rfl) ?_
        refine lv_iconst (v := 0) hx hb dX6_readLine_95 (by decide) ?_
        refine lv_bipush (v := 10) hx hb dX6_readLine_96 (by decide) ?_
        obtain ⟨⟨x16, h17⟩, e, hf⟩ := ob hf
        refine q_callV (As := [.int 0, .int 10]) (rest := [.ref a15]) (st1 := [.int x16, .ref a15]) (c_X6_takeNumber G e) B hw hM.hz hM.hc0 (k_X6_takeNumber e) (by decide) (ci := 6) rfl rfl my_X6_takeNumber mv_X6_takeNumber tw_3_76 ⟨Nat.le_of_ble_eq_true rfl, Nat.le_of_ble_eq_true rfl⟩ hM.hcs rfl hl.1 rfl rfl (Nat.le_of_ble_eq_true rfl) dX6_readLine_98 (fun H locs hw => ?_)
        obtain ⟨h18, e, hf⟩ := ob hf
        refine q_putIN e B hw fd_8_4.1 fd_8_4.2.1 fd_8_4.2.2.1 fd_8_4.2.2.2.1 fd_8_4.2.2.2.2 rfl rfl (tyX8_ok 4 (by decide)) tyX8 tyX8_ok nmX8 tw_1_67 dX6_readLine_101 (fun H locs hw => ?_)
        refine lv_aload_n hx hb dX6_readLine_104 rfl (lv_at hl 0 rfl) ?_
        obtain ⟨x19, e, hf⟩ := ob hf
        refine q_getI e B hw fd_6_0.1 fd_6_0.2.1 fd_6_0.2.2.1 fd_6_0.2.2.2.1 fd_6_0.2.2.2.2 rfl tw_1_103 dX6_readLine_105 ?_
        refine lv_if_ne (tgt := 122) hx hb dX6_readLine_108 (by decide) (fun c20 => ?_) (fun c20 => ?_)
        · have hf := (if_neg c20).symm.trans hf
          refine lv_iconst (v := 0) hx hb dX6_readLine_122 (by decide) ?_
          obtain ⟨rfl, rfl, rfl⟩ := so3 hf
          exact q_zret (Or.inl rfl) B hw hM.hz hM.hc0 hr hlk dX6_readLine_123
        · have hf := (if_pos c20).symm.trans hf
          refine lv_aload_n hx hb dX6_readLine_111 rfl (lv_at hl 0 rfl) ?_
          obtain ⟨⟨x21, h22⟩, e, hf⟩ := ob hf
          refine q_callV (As := []) (rest := []) (st1 := [.int x21]) (c_X6_endLine G e) B hw hM.hz hM.hc0 (k_X6_endLine e) (by decide) (ci := 6) rfl rfl my_X6_endLine mv_X6_endLine tw_3_81 ⟨Nat.le_of_ble_eq_true rfl, Nat.le_of_ble_eq_true rfl⟩ hM.hcs rfl hl.1 rfl rfl (Nat.le_of_ble_eq_true rfl) dX6_readLine_112 (fun H locs hw => ?_)
          refine lv_if_eq (tgt := 122) hx hb dX6_readLine_115 (by decide) (fun c23 => ?_) (fun c23 => ?_)
          · have hf := (if_pos c23).symm.trans hf
            refine lv_iconst (v := 0) hx hb dX6_readLine_122 (by decide) ?_
            obtain ⟨rfl, rfl, rfl⟩ := so3 hf
            exact q_zret (Or.inl rfl) B hw hM.hz hM.hc0 hr hlk dX6_readLine_123
          · have hf := (if_neg c23).symm.trans hf
            refine lv_iconst (v := 1) hx hb dX6_readLine_118 (by decide) ?_
            refine lv_goto (tgt := 123) hx hb dX6_readLine_119 (by decide) ?_
            obtain ⟨rfl, rfl, rfl⟩ := so3 hf
            exact q_zret (Or.inr rfl) B hw hM.hz hM.hc0 hr hlk dX6_readLine_123
    · have hf := (if_neg c4).symm.trans hf
      refine lv_aload_n hx hb dX6_readLine_38 rfl (lv_at hl 0 rfl) ?_
      obtain ⟨h24, e, hf⟩ := ob hf
      refine q_callV (As := []) (rest := []) (st1 := []) (c_X6_next G e) B hw hM.hz hM.hc0 (k_X6_next e) (by decide) (ci := 6) rfl rfl my_X6_next mv_X6_next tw_2_171 ⟨Nat.le_of_ble_eq_true rfl, Nat.le_of_ble_eq_true rfl⟩ hM.hcs rfl hl.1 rfl rfl (Nat.le_of_ble_eq_true rfl) dX6_readLine_39 (fun H locs hw => ?_)
      refine lv_aload_n hx hb dX6_readLine_42 rfl (lv_at hl 0 rfl) ?_
      obtain ⟨a25, e, hf⟩ := ob hf
      refine q_getR e B hw fd_6_8.1 fd_6_8.2.1 fd_6_8.2.2.1 fd_6_8.2.2.2.1 fd_6_8.2.2.2.2 rfl tw_1_113 dX6_readLine_43 ?_
      refine lv_aload_n hx hb dX6_readLine_46 rfl (lv_at hl 0 rfl) ?_
      refine lv_iconst (v := 0) hx hb dX6_readLine_47 (by decide) ?_
      refine lv_sipush (v := 999) hx hb dX6_readLine_48 (by decide) ?_
      obtain ⟨⟨x26, h27⟩, e, hf⟩ := ob hf
      refine q_callV (As := [.int 0, .int 999]) (rest := [.ref a25]) (st1 := [.int x26, .ref a25]) (c_X6_takeNumber G e) B hw hM.hz hM.hc0 (k_X6_takeNumber e) (by decide) (ci := 6) rfl rfl my_X6_takeNumber mv_X6_takeNumber tw_3_76 ⟨Nat.le_of_ble_eq_true rfl, Nat.le_of_ble_eq_true rfl⟩ hM.hcs rfl hl.1 rfl rfl (Nat.le_of_ble_eq_true rfl) dX6_readLine_51 (fun H locs hw => ?_)
      obtain ⟨h28, e, hf⟩ := ob hf
      refine q_putIN e B hw fd_8_3.1 fd_8_3.2.1 fd_8_3.2.2.1 fd_8_3.2.2.2.1 fd_8_3.2.2.2.2 rfl rfl (tyX8_ok 3 (by decide)) tyX8 tyX8_ok nmX8 tw_1_65 dX6_readLine_54 (fun H locs hw => ?_)
      refine lv_aload_n hx hb dX6_readLine_57 rfl (lv_at hl 0 rfl) ?_
      obtain ⟨x29, e, hf⟩ := ob hf
      refine q_getI e B hw fd_6_0.1 fd_6_0.2.1 fd_6_0.2.2.1 fd_6_0.2.2.2.1 fd_6_0.2.2.2.2 rfl tw_1_103 dX6_readLine_58 ?_
      refine lv_if_ne (tgt := 75) hx hb dX6_readLine_61 (by decide) (fun c30 => ?_) (fun c30 => ?_)
      · have hf := (if_neg c30).symm.trans hf
        refine lv_iconst (v := 0) hx hb dX6_readLine_75 (by decide) ?_
        obtain ⟨rfl, rfl, rfl⟩ := so3 hf
        exact q_zret (Or.inl rfl) B hw hM.hz hM.hc0 hr hlk dX6_readLine_76
      · have hf := (if_pos c30).symm.trans hf
        refine lv_aload_n hx hb dX6_readLine_64 rfl (lv_at hl 0 rfl) ?_
        obtain ⟨⟨x31, h32⟩, e, hf⟩ := ob hf
        refine q_callV (As := []) (rest := []) (st1 := [.int x31]) (c_X6_endLine G e) B hw hM.hz hM.hc0 (k_X6_endLine e) (by decide) (ci := 6) rfl rfl my_X6_endLine mv_X6_endLine tw_3_81 ⟨Nat.le_of_ble_eq_true rfl, Nat.le_of_ble_eq_true rfl⟩ hM.hcs rfl hl.1 rfl rfl (Nat.le_of_ble_eq_true rfl) dX6_readLine_65 (fun H locs hw => ?_)
        refine lv_if_eq (tgt := 75) hx hb dX6_readLine_68 (by decide) (fun c33 => ?_) (fun c33 => ?_)
        · have hf := (if_pos c33).symm.trans hf
          refine lv_iconst (v := 0) hx hb dX6_readLine_75 (by decide) ?_
          obtain ⟨rfl, rfl, rfl⟩ := so3 hf
          exact q_zret (Or.inl rfl) B hw hM.hz hM.hc0 hr hlk dX6_readLine_76
        · have hf := (if_neg c33).symm.trans hf
          refine lv_iconst (v := 1) hx hb dX6_readLine_71 (by decide) ?_
          refine lv_goto (tgt := 76) hx hb dX6_readLine_72 (by decide) ?_
          obtain ⟨rfl, rfl, rfl⟩ := so3 hf
          exact q_zret (Or.inr rfl) B hw hM.hz hM.hc0 hr hlk dX6_readLine_76
  · have hf := (if_neg c2).symm.trans hf
    refine lv_aload_n hx hb dX6_readLine_9 rfl (lv_at hl 0 rfl) ?_
    obtain ⟨⟨x34, h35⟩, e, hf⟩ := ob hf
    refine q_callV (As := []) (rest := []) (st1 := [.int x34]) (c_X6_readPerson G e) B hw hM.hz hM.hc0 (k_X6_readPerson e) (by decide) (ci := 6) rfl rfl my_X6_readPerson mv_X6_readPerson tw_3_91 ⟨Nat.le_of_ble_eq_true rfl, Nat.le_of_ble_eq_true rfl⟩ hM.hcs rfl hl.1 rfl rfl (Nat.le_of_ble_eq_true rfl) dX6_readLine_10 (fun H locs hw => ?_)
    refine lv_if_eq (tgt := 27) hx hb dX6_readLine_13 (by decide) (fun c36 => ?_) (fun c36 => ?_)
    · have hf := (if_pos c36).symm.trans hf
      refine lv_iconst (v := 0) hx hb dX6_readLine_27 (by decide) ?_
      obtain ⟨rfl, rfl, rfl⟩ := so3 hf
      exact q_zret (Or.inl rfl) B hw hM.hz hM.hc0 hr hlk dX6_readLine_28
    · have hf := (if_neg c36).symm.trans hf
      refine lv_aload_n hx hb dX6_readLine_16 rfl (lv_at hl 0 rfl) ?_
      obtain ⟨⟨x37, h38⟩, e, hf⟩ := ob hf
      refine q_callV (As := []) (rest := []) (st1 := [.int x37]) (c_X6_endLine G e) B hw hM.hz hM.hc0 (k_X6_endLine e) (by decide) (ci := 6) rfl rfl my_X6_endLine mv_X6_endLine tw_3_81 ⟨Nat.le_of_ble_eq_true rfl, Nat.le_of_ble_eq_true rfl⟩ hM.hcs rfl hl.1 rfl rfl (Nat.le_of_ble_eq_true rfl) dX6_readLine_17 (fun H locs hw => ?_)
      refine lv_if_eq (tgt := 27) hx hb dX6_readLine_20 (by decide) (fun c39 => ?_) (fun c39 => ?_)
      · have hf := (if_pos c39).symm.trans hf
        refine lv_iconst (v := 0) hx hb dX6_readLine_27 (by decide) ?_
        obtain ⟨rfl, rfl, rfl⟩ := so3 hf
        exact q_zret (Or.inl rfl) B hw hM.hz hM.hc0 hr hlk dX6_readLine_28
      · have hf := (if_neg c39).symm.trans hf
        refine lv_iconst (v := 1) hx hb dX6_readLine_23 (by decide) ?_
        refine lv_goto (tgt := 28) hx hb dX6_readLine_24 (by decide) ?_
        obtain ⟨rfl, rfl, rfl⟩ := so3 hf
        exact q_zret (Or.inr rfl) B hw hM.hz hM.hc0 hr hlk dX6_readLine_28
