/-! SecondLife.image(I)I -/
def f_X11_image_22 (z : Sh) (h : Hp) : Option (Int32 × Hp) :=
  (f_X11_refused z h 2).bind fun x1 =>
  some (x1, h)
def f_X11_image (z : Sh) (h : Hp) (v0 : Nat) (v1 : Int32) : Option (Int32 × Hp) :=
  if z.K v0 = 11 then
    if v1 < 0 then
      f_X11_image_22 z h
    else
      (gR z h 11 v0 7).bind fun a2 =>
      (aL z a2).bind fun x3 =>
      if x3 ≤ v1 then
        f_X11_image_22 z h
      else
        (gR z h 11 v0 8).bind fun a5 =>
        (aL z a5).bind fun x6 =>
        if v1 < x6 then
          (gR z h 11 v0 8).bind fun a8 =>
          (ldR z h 18 a8 v1).bind fun a9 =>
          (gR z h 11 v0 7).bind fun a10 =>
          (gR z h 11 v0 3).bind fun a11 =>
          (stR z h 19 8 a10 v1 a11).bind fun h12 =>
          (gR z h12 11 v0 4).bind fun a13 =>
          (f_X5_copy z h12 a9 a13).bind fun h14 =>
          some ((0 : Int32), h14)
        else
          f_X11_image_22 z h
  else none
theorem k_X11_image {z : Sh} {h : Hp} {v0 : Nat} {v1 : Int32} {w : Int32 × Hp} (hf : f_X11_image z h v0 v1 = some w) : z.K v0 = 11 := by
  unfold f_X11_image at hf
  exact (if_some hf).1
set_option maxHeartbeats 4000000 in
theorem w_X11_image_22 {p : Program} {l : Launch} {e : Env} {s : State} {m : MethodId} {args : Array Value} {below : List Frame} {meth : Method} {c : Code} {s0 : State} {E : Ev} {z : Sh} {r : Int32} {h' : Hp} (G : Gl s0 E) (B : Bd p s0 s E m c cX11_image 3 RX11) (hz : s0.heap.size ≤ z.sz) (hc0 : s.heap.size + 0 = z.sz) (hr : meth.sig.returnType = (some .int)) (hlk : meth.locks = false) : ∀ (h : Hp) (H : Heap) (locs : List Loc) (ls : Array Slot), Pw s0 s E z h H locs → lv_has ls 3 [] → f_X11_image_22 z h = some (r, h') → W p l e (rmO 2 81) s m args below meth c H locs 0 0 (Zt below s0 E z h' (some (.int r)) args s 0 0) (F0 m 22 ls []) := by
  have hx := B.1
  have hb := B.2.1
  intro h H locs ls hw hl hf
  unfold f_X11_image_22 at hf
  refine lv_iconst (v := 2) hx hb dX11_image_22 (by decide) ?_
  obtain ⟨x1, e, hf⟩ := ob hf
  refine q_callS (As := [.int 2]) (rest := []) (st1 := [.int x1]) (c_X11_refused G e) B hw hz hc0 my_X11_refused mv_X11_refused tw_2_155 ⟨Nat.le_of_ble_eq_true rfl, Nat.le_of_ble_eq_true rfl⟩ ⟨Nat.zero_le _, Nat.zero_le _⟩ rfl hl.1 rfl rfl (Nat.le_of_ble_eq_true rfl) dX11_image_23 (fun H locs hw => ?_)
  obtain ⟨rfl, rfl⟩ := so2 hf
  exact q_iret B hw hz hc0 hr hlk dX11_image_26
set_option maxHeartbeats 4000000 in
theorem c_X11_image {l : Launch} {s0 : State} {E : Ev} (G : Gl s0 E) {z : Sh} {h : Hp} {v0 : Nat} {v1 : Int32} {r : Int32} {h' : Hp} (hf : f_X11_image z h v0 v1 = some (r, h')) : Ct l s0 E yX11_image cX11_image 3 (some .int) 2 81 [.ref v0, .int v1] z h h' (some (.int r)) := by
  refine Ct.of G (by decide) (Nat.le_of_ble_eq_true rfl) ?_
  intro p e s m below meth c ls B hw hz hc0 hr hlk hl
  have B : Bd p s0 s E m c cX11_image 3 RX11 := B
  have hx := B.1
  have hb := B.2.1
  have hl : lv_has ls 3 [(0, .ref v0), (1, .int v1)] := hl
  unfold f_X11_image at hf
  obtain ⟨_, hf⟩ := if_some hf
  refine lv_iload_n hx hb dX11_image_0 rfl (lv_at hl 1 rfl) ?_
  refine lv_if_lt (tgt := 22) hx hb dX11_image_1 (by decide) (fun c1 => ?_) (fun c1 => ?_)
  · have hf := (if_pos c1).symm.trans hf
    exact w_X11_image_22 G B hz hc0 hr hlk  h _ _ _ hw (lv_sub hl [] rfl) hf
  · have hf := (if_neg c1).symm.trans hf
    refine lv_iload_n hx hb dX11_image_4 rfl (lv_at hl 1 rfl) ?_
    refine lv_aload_n hx hb dX11_image_5 rfl (lv_at hl 0 rfl) ?_
    obtain ⟨a2, e, hf⟩ := ob hf
    refine q_getR e B hw fd_11_7.1 fd_11_7.2.1 fd_11_7.2.2.1 fd_11_7.2.2.2.1 fd_11_7.2.2.2.2 rfl tw_2_109 dX11_image_6 ?_
    obtain ⟨x3, e, hf⟩ := ob hf
    refine q_len e B hw dX11_image_9 ?_
    refine lv_icmp_ge (tgt := 22) hx hb dX11_image_10 (by decide) (fun c4 => ?_) (fun c4 => ?_)
    · have hf := (if_pos c4).symm.trans hf
      exact w_X11_image_22 G B hz hc0 hr hlk  h _ _ _ hw (lv_sub hl [] rfl) hf
    · have hf := (if_neg c4).symm.trans hf
      refine lv_iload_n hx hb dX11_image_13 rfl (lv_at hl 1 rfl) ?_
      refine lv_aload_n hx hb dX11_image_14 rfl (lv_at hl 0 rfl) ?_
      obtain ⟨a5, e, hf⟩ := ob hf
      refine q_getR e B hw fd_11_8.1 fd_11_8.2.1 fd_11_8.2.2.1 fd_11_8.2.2.2.1 fd_11_8.2.2.2.2 rfl tw_2_110 dX11_image_15 ?_
      obtain ⟨x6, e, hf⟩ := ob hf
      refine q_len e B hw dX11_image_18 ?_
      refine lv_icmp_lt (tgt := 27) hx hb dX11_image_19 (by decide) (fun c7 => ?_) (fun c7 => ?_)
      · have hf := (if_pos c7).symm.trans hf
        refine lv_aload_n hx hb dX11_image_27 rfl (lv_at hl 0 rfl) ?_
        obtain ⟨a8, e, hf⟩ := ob hf
        refine q_getR e B hw fd_11_8.1 fd_11_8.2.1 fd_11_8.2.2.1 fd_11_8.2.2.2.1 fd_11_8.2.2.2.2 rfl tw_2_110 dX11_image_28 ?_
        refine lv_iload_n hx hb dX11_image_31 rfl (lv_at hl 1 rfl) ?_
        obtain ⟨a9, e, hf⟩ := ob hf
        refine q_ldR (t0 := 5) e B hw (by decide) (by decide) rfl dX11_image_32 ?_
        refine lv_astore_n (lv' := [(2, .ref a9), (0, .ref v0), (1, .int v1)]) hx hb dX11_image_33 rfl hl (by decide) rfl (fun ls hl => ?_)
        refine lv_aload_n hx hb dX11_image_34 rfl (lv_at hl 0 rfl) ?_
        refine lv_ifnonnull (tgt := 43) hx hb dX11_image_35 (by decide) ?_
        refine lv_aload_n hx hb dX11_image_43 rfl (lv_at hl 1 rfl) ?_
        obtain ⟨a10, e, hf⟩ := ob hf
        refine q_getR e B hw fd_11_7.1 fd_11_7.2.1 fd_11_7.2.2.1 fd_11_7.2.2.2.1 fd_11_7.2.2.2.2 rfl tw_2_109 dX11_image_44 ?_
        refine lv_iload_n hx hb dX11_image_47 rfl (lv_at hl 2 rfl) ?_
        refine lv_aload_n hx hb dX11_image_48 rfl (lv_at hl 1 rfl) ?_
        obtain ⟨a11, e, hf⟩ := ob hf
        refine q_getR e B hw fd_11_3.1 fd_11_3.2.1 fd_11_3.2.2.1 fd_11_3.2.2.2.1 fd_11_3.2.2.2.2 rfl tw_2_105 dX11_image_49 ?_
        obtain ⟨h12, e, hf⟩ := ob hf
        refine q_stR (t0 := 6) e B hw (by decide) (by decide) (by decide) rfl rfl dX11_image_52 (fun H locs hw => ?_)
        refine lv_aload_n hx hb dX11_image_53 rfl (lv_at hl 0 rfl) ?_
        refine lv_aload_n hx hb dX11_image_54 rfl (lv_at hl 1 rfl) ?_
        obtain ⟨a13, e, hf⟩ := ob hf
        refine q_getR e B hw fd_11_4.1 fd_11_4.2.1 fd_11_4.2.2.1 fd_11_4.2.2.2.1 fd_11_4.2.2.2.2 rfl tw_2_106 dX11_image_55 ?_
        obtain ⟨h14, e, hf⟩ := ob hf
        refine q_callVN (As := [.ref a13]) (rest := []) (st1 := []) (c_X5_copy G e) B hw hz hc0 (k_X5_copy e) (by decide) (ci := 5) rfl rfl my_X5_copy mv_X5_copy tw_4_25 ⟨Nat.le_of_ble_eq_true rfl, Nat.le_of_ble_eq_true rfl⟩ ⟨Nat.zero_le _, Nat.zero_le _⟩ rfl hl.1 rfl rfl (Nat.le_of_ble_eq_true rfl) dX11_image_58 (fun H locs hw => ?_)
        refine lv_iconst (v := 0) hx hb dX11_image_61 (by decide) ?_
        obtain ⟨rfl, rfl⟩ := so2 hf
        exact q_iret B hw hz hc0 hr hlk dX11_image_62
      · have hf := (if_neg c7).symm.trans hf
        exact w_X11_image_22 G B hz hc0 hr hlk  h _ _ _ hw (lv_sub hl [] rfl) hf
/-! SecondLife.restore(I)I -/
def f_X11_restore_49 (z : Sh) (h : Hp) : Option (Int32 × Hp) :=
  (f_X11_refused z h 5).bind fun x1 =>
  some (x1, h)
def f_X11_restore_22 (z : Sh) (h : Hp) : Option (Int32 × Hp) :=
  (f_X11_refused z h 2).bind fun x1 =>
  some (x1, h)
def f_X11_restore (z : Sh) (h : Hp) (v0 : Nat) (v1 : Int32) : Option (Int32 × Hp) :=
  if z.K v0 = 11 then
    if v1 < 0 then
      f_X11_restore_22 z h
    else
      (gR z h 11 v0 7).bind fun a2 =>
      (aL z a2).bind fun x3 =>
      if x3 ≤ v1 then
        f_X11_restore_22 z h
      else
        (gR z h 11 v0 8).bind fun a5 =>
        (aL z a5).bind fun x6 =>
        if v1 < x6 then
          (gR z h 11 v0 7).bind fun a8 =>
          (ldN z h 19 a8 v1).bind fun o9 =>
          (match o9 with
          | none =>
            (gR z h 11 v0 8).bind fun a11 =>
            (ldR z h 18 a11 v1).bind fun a12 =>
            f_X11_restore_49 z h
          | some a10 =>
            (gR z h 11 v0 8).bind fun a13 =>
            (ldR z h 18 a13 v1).bind fun a14 =>
            (pR z h 11 v0 3 (some a10)).bind fun h15 =>
            (gR z h15 11 v0 4).bind fun a16 =>
            (f_X5_copy z h15 a16 a14).bind fun h17 =>
            (gR z h17 11 v0 6).bind fun a18 =>
            (f_X4_forget z h17 a18).bind fun h19 =>
            some ((0 : Int32), h19))
        else
          f_X11_restore_22 z h
  else none
theorem k_X11_restore {z : Sh} {h : Hp} {v0 : Nat} {v1 : Int32} {w : Int32 × Hp} (hf : f_X11_restore z h v0 v1 = some w) : z.K v0 = 11 := by
  unfold f_X11_restore at hf
  exact (if_some hf).1
set_option maxHeartbeats 4000000 in
theorem w_X11_restore_49 {p : Program} {l : Launch} {e : Env} {s : State} {m : MethodId} {args : Array Value} {below : List Frame} {meth : Method} {c : Code} {s0 : State} {E : Ev} {z : Sh} {r : Int32} {h' : Hp} (G : Gl s0 E) (B : Bd p s0 s E m c cX11_restore 4 RX11) (hz : s0.heap.size ≤ z.sz) (hc0 : s.heap.size + 0 = z.sz) (hr : meth.sig.returnType = (some .int)) (hlk : meth.locks = false) : ∀ (h : Hp) (H : Heap) (locs : List Loc) (ls : Array Slot), Pw s0 s E z h H locs → lv_has ls 4 [] → f_X11_restore_49 z h = some (r, h') → W p l e (rmO 2 81) s m args below meth c H locs 0 0 (Zt below s0 E z h' (some (.int r)) args s 0 0) (F0 m 49 ls []) := by
  have hx := B.1
  have hb := B.2.1
  intro h H locs ls hw hl hf
  unfold f_X11_restore_49 at hf
  refine lv_iconst (v := 5) hx hb dX11_restore_49 (by decide) ?_
  obtain ⟨x1, e, hf⟩ := ob hf
  refine q_callS (As := [.int 5]) (rest := []) (st1 := [.int x1]) (c_X11_refused G e) B hw hz hc0 my_X11_refused mv_X11_refused tw_2_155 ⟨Nat.le_of_ble_eq_true rfl, Nat.le_of_ble_eq_true rfl⟩ ⟨Nat.zero_le _, Nat.zero_le _⟩ rfl hl.1 rfl rfl (Nat.le_of_ble_eq_true rfl) dX11_restore_50 (fun H locs hw => ?_)
  obtain ⟨rfl, rfl⟩ := so2 hf
  exact q_iret B hw hz hc0 hr hlk dX11_restore_53
set_option maxHeartbeats 4000000 in
theorem w_X11_restore_22 {p : Program} {l : Launch} {e : Env} {s : State} {m : MethodId} {args : Array Value} {below : List Frame} {meth : Method} {c : Code} {s0 : State} {E : Ev} {z : Sh} {r : Int32} {h' : Hp} (G : Gl s0 E) (B : Bd p s0 s E m c cX11_restore 4 RX11) (hz : s0.heap.size ≤ z.sz) (hc0 : s.heap.size + 0 = z.sz) (hr : meth.sig.returnType = (some .int)) (hlk : meth.locks = false) : ∀ (h : Hp) (H : Heap) (locs : List Loc) (ls : Array Slot), Pw s0 s E z h H locs → lv_has ls 4 [] → f_X11_restore_22 z h = some (r, h') → W p l e (rmO 2 81) s m args below meth c H locs 0 0 (Zt below s0 E z h' (some (.int r)) args s 0 0) (F0 m 22 ls []) := by
  have hx := B.1
  have hb := B.2.1
  intro h H locs ls hw hl hf
  unfold f_X11_restore_22 at hf
  refine lv_iconst (v := 2) hx hb dX11_restore_22 (by decide) ?_
  obtain ⟨x1, e, hf⟩ := ob hf
  refine q_callS (As := [.int 2]) (rest := []) (st1 := [.int x1]) (c_X11_refused G e) B hw hz hc0 my_X11_refused mv_X11_refused tw_2_155 ⟨Nat.le_of_ble_eq_true rfl, Nat.le_of_ble_eq_true rfl⟩ ⟨Nat.zero_le _, Nat.zero_le _⟩ rfl hl.1 rfl rfl (Nat.le_of_ble_eq_true rfl) dX11_restore_23 (fun H locs hw => ?_)
  obtain ⟨rfl, rfl⟩ := so2 hf
  exact q_iret B hw hz hc0 hr hlk dX11_restore_26
set_option maxHeartbeats 4000000 in
theorem c_X11_restore {l : Launch} {s0 : State} {E : Ev} (G : Gl s0 E) {z : Sh} {h : Hp} {v0 : Nat} {v1 : Int32} {r : Int32} {h' : Hp} (hf : f_X11_restore z h v0 v1 = some (r, h')) : Ct l s0 E yX11_restore cX11_restore 4 (some .int) 2 81 [.ref v0, .int v1] z h h' (some (.int r)) := by
  refine Ct.of G (by decide) (Nat.le_of_ble_eq_true rfl) ?_
  intro p e s m below meth c ls B hw hz hc0 hr hlk hl
  have B : Bd p s0 s E m c cX11_restore 4 RX11 := B
  have hx := B.1
  have hb := B.2.1
  have hl : lv_has ls 4 [(0, .ref v0), (1, .int v1)] := hl
  unfold f_X11_restore at hf
  obtain ⟨_, hf⟩ := if_some hf
  refine lv_iload_n hx hb dX11_restore_0 rfl (lv_at hl 1 rfl) ?_
  refine lv_if_lt (tgt := 22) hx hb dX11_restore_1 (by decide) (fun c1 => ?_) (fun c1 => ?_)
  · have hf := (if_pos c1).symm.trans hf
    exact w_X11_restore_22 G B hz hc0 hr hlk  h _ _ _ hw (lv_sub hl [] rfl) hf
  · have hf := (if_neg c1).symm.trans hf
    refine lv_iload_n hx hb dX11_restore_4 rfl (lv_at hl 1 rfl) ?_
    refine lv_aload_n hx hb dX11_restore_5 rfl (lv_at hl 0 rfl) ?_
    obtain ⟨a2, e, hf⟩ := ob hf
    refine q_getR e B hw fd_11_7.1 fd_11_7.2.1 fd_11_7.2.2.1 fd_11_7.2.2.2.1 fd_11_7.2.2.2.2 rfl tw_2_109 dX11_restore_6 ?_
    obtain ⟨x3, e, hf⟩ := ob hf
    refine q_len e B hw dX11_restore_9 ?_
    refine lv_icmp_ge (tgt := 22) hx hb dX11_restore_10 (by decide) (fun c4 => ?_) (fun c4 => ?_)
    · have hf := (if_pos c4).symm.trans hf
      exact w_X11_restore_22 G B hz hc0 hr hlk  h _ _ _ hw (lv_sub hl [] rfl) hf
    · have hf := (if_neg c4).symm.trans hf
      refine lv_iload_n hx hb dX11_restore_13 rfl (lv_at hl 1 rfl) ?_
      refine lv_aload_n hx hb dX11_restore_14 rfl (lv_at hl 0 rfl) ?_
      obtain ⟨a5, e, hf⟩ := ob hf
      refine q_getR e B hw fd_11_8.1 fd_11_8.2.1 fd_11_8.2.2.1 fd_11_8.2.2.2.1 fd_11_8.2.2.2.2 rfl tw_2_110 dX11_restore_15 ?_
      obtain ⟨x6, e, hf⟩ := ob hf
      refine q_len e B hw dX11_restore_18 ?_
      refine lv_icmp_lt (tgt := 27) hx hb dX11_restore_19 (by decide) (fun c7 => ?_) (fun c7 => ?_)
      · have hf := (if_pos c7).symm.trans hf
        refine lv_aload_n hx hb dX11_restore_27 rfl (lv_at hl 0 rfl) ?_
        obtain ⟨a8, e, hf⟩ := ob hf
        refine q_getR e B hw fd_11_7.1 fd_11_7.2.1 fd_11_7.2.2.1 fd_11_7.2.2.2.1 fd_11_7.2.2.2.2 rfl tw_2_109 dX11_restore_28 ?_
        refine lv_iload_n hx hb dX11_restore_31 rfl (lv_at hl 1 rfl) ?_
        obtain ⟨o9, e, hf⟩ := ob hf
        refine q_ldN (t0 := 6) e B hw (by decide) (by decide) rfl dX11_restore_32 ?_
        rcases o9 with _ | a10
        · refine lv_astore_nN (lv' := [(2, .null), (0, .ref v0), (1, .int v1)]) hx hb dX11_restore_33 rfl hl (by decide) rfl (fun ls hl => ?_)
          refine lv_aload_n hx hb dX11_restore_34 rfl (lv_at hl 1 rfl) ?_
          obtain ⟨a11, e, hf⟩ := ob hf
          refine q_getR e B hw fd_11_8.1 fd_11_8.2.1 fd_11_8.2.2.1 fd_11_8.2.2.2.1 fd_11_8.2.2.2.2 rfl tw_2_110 dX11_restore_35 ?_
          refine lv_iload_n hx hb dX11_restore_38 rfl (lv_at hl 2 rfl) ?_
          obtain ⟨a12, e, hf⟩ := ob hf
          refine q_ldR (t0 := 5) e B hw (by decide) (by decide) rfl dX11_restore_39 ?_
          refine lv_astore_n (lv' := [(3, .ref a12), (2, .null), (0, .ref v0), (1, .int v1)]) hx hb dX11_restore_40 rfl hl (by decide) rfl (fun ls hl => ?_)
          refine lv_aload_nN hx hb dX11_restore_41 rfl (lv_at hl 1 rfl) ?_
          refine lv_ifnullN (tgt := 49) hx hb dX11_restore_42 (by decide) ?_
          exact w_X11_restore_49 G B hz hc0 hr hlk  h _ _ _ hw (lv_sub hl [] rfl) hf
        · refine lv_astore_n (lv' := [(2, .ref a10), (0, .ref v0), (1, .int v1)]) hx hb dX11_restore_33 rfl hl (by decide) rfl (fun ls hl => ?_)
          refine lv_aload_n hx hb dX11_restore_34 rfl (lv_at hl 1 rfl) ?_
          obtain ⟨a13, e, hf⟩ := ob hf
          refine q_getR e B hw fd_11_8.1 fd_11_8.2.1 fd_11_8.2.2.1 fd_11_8.2.2.2.1 fd_11_8.2.2.2.2 rfl tw_2_110 dX11_restore_35 ?_
          refine lv_iload_n hx hb dX11_restore_38 rfl (lv_at hl 2 rfl) ?_
          obtain ⟨a14, e, hf⟩ := ob hf
          refine q_ldR (t0 := 5) e B hw (by decide) (by decide) rfl dX11_restore_39 ?_
          refine lv_astore_n (lv' := [(3, .ref a14), (2, .ref a10), (0, .ref v0), (1, .int v1)]) hx hb dX11_restore_40 rfl hl (by decide) rfl (fun ls hl => ?_)
          refine lv_aload_n hx hb dX11_restore_41 rfl (lv_at hl 1 rfl) ?_
          refine lv_ifnull hx hb dX11_restore_42 ?_
          refine lv_aload_n hx hb dX11_restore_45 rfl (lv_at hl 0 rfl) ?_
          refine lv_ifnonnull (tgt := 54) hx hb dX11_restore_46 (by decide) ?_
          refine lv_aload_n hx hb dX11_restore_54 rfl (lv_at hl 2 rfl) ?_
          refine lv_aload_n hx hb dX11_restore_55 rfl (lv_at hl 1 rfl) ?_
          obtain ⟨h15, e, hf⟩ := ob hf
          refine q_putR e B hw fd_11_3.1 fd_11_3.2.1 fd_11_3.2.2.1 fd_11_3.2.2.2.1 fd_11_3.2.2.2.2 rfl rfl (tyX11_ok 3 (by decide)) (Or.inl ⟨_, rfl⟩) tyX11 tyX11_ok nmX11 tw_2_105 dX11_restore_56 (fun H locs hw => ?_)
          refine lv_aload_n hx hb dX11_restore_59 rfl (lv_at hl 2 rfl) ?_
          obtain ⟨a16, e, hf⟩ := ob hf
          refine q_getR e B hw fd_11_4.1 fd_11_4.2.1 fd_11_4.2.2.1 fd_11_4.2.2.2.1 fd_11_4.2.2.2.2 rfl tw_2_106 dX11_restore_60 ?_
          refine lv_aload_n hx hb dX11_restore_63 rfl (lv_at hl 0 rfl) ?_
          obtain ⟨h17, e, hf⟩ := ob hf
          refine q_callVN (As := [.ref a14]) (rest := []) (st1 := []) (c_X5_copy G e) B hw hz hc0 (k_X5_copy e) (by decide) (ci := 5) rfl rfl my_X5_copy mv_X5_copy tw_4_25 ⟨Nat.le_of_ble_eq_true rfl, Nat.le_of_ble_eq_true rfl⟩ ⟨Nat.zero_le _, Nat.zero_le _⟩ rfl hl.1 rfl rfl (Nat.le_of_ble_eq_true rfl) dX11_restore_64 (fun H locs hw => ?_)
          refine lv_aload_n hx hb dX11_restore_67 rfl (lv_at hl 2 rfl) ?_
          obtain ⟨a18, e, hf⟩ := ob hf
          refine q_getR e B hw fd_11_6.1 fd_11_6.2.1 fd_11_6.2.2.1 fd_11_6.2.2.2.1 fd_11_6.2.2.2.2 rfl tw_2_108 dX11_restore_68 ?_
          obtain ⟨h19, e, hf⟩ := ob hf
          refine q_callVN (As := []) (rest := []) (st1 := []) (c_X4_forget G e) B hw hz hc0 (k_X4_forget e) (by decide) (ci := 4) rfl rfl my_X4_forget mv_X4_forget tw_3_198 ⟨Nat.le_of_ble_eq_true rfl, Nat.le_of_ble_eq_true rfl⟩ ⟨Nat.zero_le _, Nat.zero_le _⟩ rfl hl.1 rfl rfl (Nat.le_of_ble_eq_true rfl) dX11_restore_71 (fun H locs hw => ?_)
          refine lv_iconst (v := 0) hx hb dX11_restore_74 (by decide) ?_
          obtain ⟨rfl, rfl⟩ := so2 hf
          exact q_iret B hw hz hc0 hr hlk dX11_restore_75
      · have hf := (if_neg c7).symm.trans hf
        exact w_X11_restore_22 G B hz hc0 hr hlk  h _ _ _ hw (lv_sub hl [] rfl) hf
/-! SecondLife.count(I)I -/
def f_X11_count (n : Nat) (z : Sh) (h : Hp) (v0 : Nat) (v1 : Int32) : Option (Int32) :=
  if z.K v0 = 11 then
    if v1 = 0 then
      (gR z h 11 v0 3).bind fun a1 =>
      (gI z h 8 a1 0).bind fun x2 =>
      some x2
    else
      if v1 = 1 then
        (gR z h 11 v0 3).bind fun a3 =>
        (gI z h 8 a3 1).bind fun x4 =>
        some x4
      else
        if v1 = 2 then
          (gR z h 11 v0 4).bind fun a5 =>
          (gI z h 5 a5 1).bind fun x6 =>
          some x6
        else
          if v1 = 3 then
            (gR z h 11 v0 4).bind fun a7 =>
            (gI z h 5 a7 2).bind fun x8 =>
            some x8
          else
            if v1 = 4 then
              (gR z h 11 v0 4).bind fun a9 =>
              (f_X5_wealth n z h a9).bind fun x10 =>
              some x10
            else
              if v1 = 5 then
                (gR z h 11 v0 4).bind fun a11 =>
                (f_X5_drawn n z h a11).bind fun x12 =>
                some x12
              else
                if v1 = 6 then
                  (gR z h 11 v0 4).bind fun a13 =>
                  (f_X5_pledged n z h a13).bind fun x14 =>
                  some x14
                else
                  if v1 = 7 then
                    (gR z h 11 v0 6).bind fun a15 =>
                    (gI z h 4 a15 2).bind fun x16 =>
                    some x16
                  else
                    if v1 = 8 then
                      (gI z h 11 v0 1).bind fun x17 =>
                      some x17
                    else
                      if v1 = 9 then
                        (gR z h 11 v0 3).bind fun a18 =>
                        (gI z h 8 a18 5).bind fun x19 =>
                        some x19
                      else
                        some ((-1) : Int32)
  else none
theorem k_X11_count {n : Nat} {z : Sh} {h : Hp} {v0 : Nat} {v1 : Int32} {w : Int32} (hf : f_X11_count n z h v0 v1 = some w) : z.K v0 = 11 := by
  unfold f_X11_count at hf
  exact (if_some hf).1
set_option maxHeartbeats 4000000 in
theorem c_X11_count {l : Launch} {s0 : State} {E : Ev} (G : Gl s0 E) {n : Nat} {z : Sh} {h : Hp} {v0 : Nat} {v1 : Int32} {r : Int32} (hf : f_X11_count n z h v0 v1 = some r) : Ct l s0 E yX11_count cX11_count 2 (some .int) 2 45 [.ref v0, .int v1] z h h (some (.int r)) := by
  refine Ct.of G (by decide) (Nat.le_of_ble_eq_true rfl) ?_
  intro p e s m below meth c ls B hw hz hc0 hr hlk hl
  have B : Bd p s0 s E m c cX11_count 2 RX11 := B
  have hx := B.1
  have hb := B.2.1
  have hl : lv_has ls 2 [(0, .ref v0), (1, .int v1)] := hl
  unfold f_X11_count at hf
  obtain ⟨_, hf⟩ := if_some hf
  refine lv_iload_n hx hb dX11_count_0 rfl (lv_at hl 1 rfl) ?_
  by_cases c1_0 : v1 = 0
  · have hf := (if_pos c1_0).symm.trans hf
    refine lv_tableIn (off := 55) (tgt := 56) hx hb dX11_count_1 (by rw [c1_0]; decide) (by rw [c1_0]; decide) (by rw [c1_0]; rfl) (by decide) ?_
    refine lv_aload_n hx hb dX11_count_56 rfl (lv_at hl 0 rfl) ?_
    obtain ⟨a1, e, hf⟩ := ob hf
    refine q_getR e B hw fd_11_3.1 fd_11_3.2.1 fd_11_3.2.2.1 fd_11_3.2.2.2.1 fd_11_3.2.2.2.2 rfl tw_2_105 dX11_count_57 ?_
    obtain ⟨x2, e, hf⟩ := ob hf
    refine q_getIN e B hw fd_8_0.1 fd_8_0.2.1 fd_8_0.2.2.1 fd_8_0.2.2.2.1 fd_8_0.2.2.2.2 rfl tw_1_52 dX11_count_60 ?_
    obtain rfl := so hf
    exact q_iret B hw hz hc0 hr hlk dX11_count_63
  have hf := (if_neg c1_0).symm.trans hf
  by_cases c1_1 : v1 = 1
  · have hf := (if_pos c1_1).symm.trans hf
    refine lv_tableIn (off := 63) (tgt := 64) hx hb dX11_count_1 (by rw [c1_1]; decide) (by rw [c1_1]; decide) (by rw [c1_1]; rfl) (by decide) ?_
    refine lv_aload_n hx hb dX11_count_64 rfl (lv_at hl 0 rfl) ?_
    obtain ⟨a3, e, hf⟩ := ob hf
    refine q_getR e B hw fd_11_3.1 fd_11_3.2.1 fd_11_3.2.2.1 fd_11_3.2.2.2.1 fd_11_3.2.2.2.2 rfl tw_2_105 dX11_count_65 ?_
    obtain ⟨x4, e, hf⟩ := ob hf
    refine q_getIN e B hw fd_8_1.1 fd_8_1.2.1 fd_8_1.2.2.1 fd_8_1.2.2.2.1 fd_8_1.2.2.2.2 rfl tw_1_59 dX11_count_68 ?_
    obtain rfl := so hf
    exact q_iret B hw hz hc0 hr hlk dX11_count_71
  have hf := (if_neg c1_1).symm.trans hf
  by_cases c1_2 : v1 = 2
  · have hf := (if_pos c1_2).symm.trans hf
    refine lv_tableIn (off := 71) (tgt := 72) hx hb dX11_count_1 (by rw [c1_2]; decide) (by rw [c1_2]; decide) (by rw [c1_2]; rfl) (by decide) ?_
    refine lv_aload_n hx hb dX11_count_72 rfl (lv_at hl 0 rfl) ?_
    obtain ⟨a5, e, hf⟩ := ob hf
    refine q_getR e B hw fd_11_4.1 fd_11_4.2.1 fd_11_4.2.2.1 fd_11_4.2.2.2.1 fd_11_4.2.2.2.2 rfl tw_2_106 dX11_count_73 ?_
    obtain ⟨x6, e, hf⟩ := ob hf
    refine q_getIN e B hw fd_5_1.1 fd_5_1.2.1 fd_5_1.2.2.1 fd_5_1.2.2.2.1 fd_5_1.2.2.2.2 rfl tw_1_152 dX11_count_76 ?_
    obtain rfl := so hf
    exact q_iret B hw hz hc0 hr hlk dX11_count_79
  have hf := (if_neg c1_2).symm.trans hf
  by_cases c1_3 : v1 = 3
  · have hf := (if_pos c1_3).symm.trans hf
    refine lv_tableIn (off := 79) (tgt := 80) hx hb dX11_count_1 (by rw [c1_3]; decide) (by rw [c1_3]; decide) (by rw [c1_3]; rfl) (by decide) ?_
    refine lv_aload_n hx hb dX11_count_80 rfl (lv_at hl 0 rfl) ?_
    obtain ⟨a7, e, hf⟩ := ob hf
    refine q_getR e B hw fd_11_4.1 fd_11_4.2.1 fd_11_4.2.2.1 fd_11_4.2.2.2.1 fd_11_4.2.2.2.2 rfl tw_2_106 dX11_count_81 ?_
    obtain ⟨x8, e, hf⟩ := ob hf
    refine q_getIN e B hw fd_5_2.1 fd_5_2.2.1 fd_5_2.2.2.1 fd_5_2.2.2.2.1 fd_5_2.2.2.2.2 rfl tw_1_155 dX11_count_84 ?_
    obtain rfl := so hf
    exact q_iret B hw hz hc0 hr hlk dX11_count_87
  have hf := (if_neg c1_3).symm.trans hf
  by_cases c1_4 : v1 = 4
  · have hf := (if_pos c1_4).symm.trans hf
    refine lv_tableIn (off := 87) (tgt := 88) hx hb dX11_count_1 (by rw [c1_4]; decide) (by rw [c1_4]; decide) (by rw [c1_4]; rfl) (by decide) ?_
    refine lv_aload_n hx hb dX11_count_88 rfl (lv_at hl 0 rfl) ?_
    obtain ⟨a9, e, hf⟩ := ob hf
    refine q_getR e B hw fd_11_4.1 fd_11_4.2.1 fd_11_4.2.2.1 fd_11_4.2.2.2.1 fd_11_4.2.2.2.2 rfl tw_2_106 dX11_count_89 ?_
    obtain ⟨x10, e, hf⟩ := ob hf
    refine q_callVN (As := []) (rest := []) (st1 := [.int x10]) (c_X5_wealth G e) B hw hz hc0 (k_X5_wealth e) (by decide) (ci := 5) rfl rfl my_X5_wealth mv_X5_wealth tw_4_119 ⟨Nat.le_of_ble_eq_true rfl, Nat.le_of_ble_eq_true rfl⟩ ⟨Nat.zero_le _, Nat.zero_le _⟩ rfl hl.1 rfl rfl (Nat.le_of_ble_eq_true rfl) dX11_count_92 (fun H locs hw => ?_)
    obtain rfl := so hf
    exact q_iret B hw hz hc0 hr hlk dX11_count_95
  have hf := (if_neg c1_4).symm.trans hf
  by_cases c1_5 : v1 = 5
  · have hf := (if_pos c1_5).symm.trans hf
    refine lv_tableIn (off := 95) (tgt := 96) hx hb dX11_count_1 (by rw [c1_5]; decide) (by rw [c1_5]; decide) (by rw [c1_5]; rfl) (by decide) ?_
    refine lv_aload_n hx hb dX11_count_96 rfl (lv_at hl 0 rfl) ?_
    obtain ⟨a11, e, hf⟩ := ob hf
    refine q_getR e B hw fd_11_4.1 fd_11_4.2.1 fd_11_4.2.2.1 fd_11_4.2.2.2.1 fd_11_4.2.2.2.2 rfl tw_2_106 dX11_count_97 ?_
    obtain ⟨x12, e, hf⟩ := ob hf
    refine q_callVN (As := []) (rest := []) (st1 := [.int x12]) (c_X5_drawn G e) B hw hz hc0 (k_X5_drawn e) (by decide) (ci := 5) rfl rfl my_X5_drawn mv_X5_drawn tw_4_124 ⟨Nat.le_of_ble_eq_true rfl, Nat.le_of_ble_eq_true rfl⟩ ⟨Nat.zero_le _, Nat.zero_le _⟩ rfl hl.1 rfl rfl (Nat.le_of_ble_eq_true rfl) dX11_count_100 (fun H locs hw => ?_)
    obtain rfl := so hf
    exact q_iret B hw hz hc0 hr hlk dX11_count_103
  have hf := (if_neg c1_5).symm.trans hf
  by_cases c1_6 : v1 = 6
  · have hf := (if_pos c1_6).symm.trans hf
    refine lv_tableIn (off := 103) (tgt := 104) hx hb dX11_count_1 (by rw [c1_6]; decide) (by rw [c1_6]; decide) (by rw [c1_6]; rfl) (by decide) ?_
    refine lv_aload_n hx hb dX11_count_104 rfl (lv_at hl 0 rfl) ?_
    obtain ⟨a13, e, hf⟩ := ob hf
    refine q_getR e B hw fd_11_4.1 fd_11_4.2.1 fd_11_4.2.2.1 fd_11_4.2.2.2.1 fd_11_4.2.2.2.2 rfl tw_2_106 dX11_count_105 ?_
    obtain ⟨x14, e, hf⟩ := ob hf
    refine q_callVN (As := []) (rest := []) (st1 := [.int x14]) (c_X5_pledged G e) B hw hz hc0 (k_X5_pledged e) (by decide) (ci := 5) rfl rfl my_X5_pledged mv_X5_pledged tw_6_29 ⟨Nat.le_of_ble_eq_true rfl, Nat.le_of_ble_eq_true rfl⟩ ⟨Nat.zero_le _, Nat.zero_le _⟩ rfl hl.1 rfl rfl (Nat.le_of_ble_eq_true rfl) dX11_count_108 (fun H locs hw => ?_)
    obtain rfl := so hf
    exact q_iret B hw hz hc0 hr hlk dX11_count_111
  have hf := (if_neg c1_6).symm.trans hf
  by_cases c1_7 : v1 = 7
  · have hf := (if_pos c1_7).symm.trans hf
    refine lv_tableIn (off := 111) (tgt := 112) hx hb dX11_count_1 (by rw [c1_7]; decide) (by rw [c1_7]; decide) (by rw [c1_7]; rfl) (by decide) ?_
    refine lv_aload_n hx hb dX11_count_112 rfl (lv_at hl 0 rfl) ?_
    obtain ⟨a15, e, hf⟩ := ob hf
    refine q_getR e B hw fd_11_6.1 fd_11_6.2.1 fd_11_6.2.2.1 fd_11_6.2.2.2.1 fd_11_6.2.2.2.2 rfl tw_2_108 dX11_count_113 ?_
    obtain ⟨x16, e, hf⟩ := ob hf
    refine q_getIN e B hw fd_4_2.1 fd_4_2.2.1 fd_4_2.2.2.1 fd_4_2.2.2.2.1 fd_4_2.2.2.2.2 rfl tw_1_175 dX11_count_116 ?_
    obtain rfl := so hf
    exact q_iret B hw hz hc0 hr hlk dX11_count_119
  have hf := (if_neg c1_7).symm.trans hf
  by_cases c1_8 : v1 = 8
  · have hf := (if_pos c1_8).symm.trans hf
    refine lv_tableIn (off := 119) (tgt := 120) hx hb dX11_count_1 (by rw [c1_8]; decide) (by rw [c1_8]; decide) (by rw [c1_8]; rfl) (by decide) ?_
    refine lv_aload_n hx hb dX11_count_120 rfl (lv_at hl 0 rfl) ?_
    obtain ⟨x17, e, hf⟩ := ob hf
    refine q_getI e B hw fd_11_1.1 fd_11_1.2.1 fd_11_1.2.2.1 fd_11_1.2.2.2.1 fd_11_1.2.2.2.2 rfl tw_2_103 dX11_count_121 ?_
    obtain rfl := so hf
    exact q_iret B hw hz hc0 hr hlk dX11_count_124
  have hf := (if_neg c1_8).symm.trans hf
  by_cases c1_9 : v1 = 9
  · have hf := (if_pos c1_9).symm.trans hf
    refine lv_tableIn (off := 124) (tgt := 125) hx hb dX11_count_1 (by rw [c1_9]; decide) (by rw [c1_9]; decide) (by rw [c1_9]; rfl) (by decide) ?_
    refine lv_aload_n hx hb dX11_count_125 rfl (lv_at hl 0 rfl) ?_
    obtain ⟨a18, e, hf⟩ := ob hf
    refine q_getR e B hw fd_11_3.1 fd_11_3.2.1 fd_11_3.2.2.1 fd_11_3.2.2.2.1 fd_11_3.2.2.2.2 rfl tw_2_105 dX11_count_126 ?_
    obtain ⟨x19, e, hf⟩ := ob hf
    refine q_getIN e B hw fd_8_5.1 fd_8_5.2.1 fd_8_5.2.2.1 fd_8_5.2.2.2.1 fd_8_5.2.2.2.2 rfl tw_1_70 dX11_count_129 ?_
    obtain rfl := so hf
    exact q_iret B hw hz hc0 hr hlk dX11_count_132
  have hf := (if_neg c1_9).symm.trans hf
  refine lv_tableOut (tgt := 133) hx hb dX11_count_1 (sw_out (fun k h1 h2 => ?_)) (by decide) ?_
  · rcases (show k = (0) ∨ k = (1) ∨ k = (2) ∨ k = (3) ∨ k = (4) ∨ k = (5) ∨ k = (6) ∨ k = (7) ∨ k = (8) ∨ k = (9) by omega) with rfl | rfl | rfl | rfl | rfl | rfl | rfl | rfl | rfl | rfl
    · exact fun q => c1_0 (Int32.toInt_inj.mp q)
    · exact fun q => c1_1 (Int32.toInt_inj.mp q)
    · exact fun q => c1_2 (Int32.toInt_inj.mp q)
    · exact fun q => c1_3 (Int32.toInt_inj.mp q)
    · exact fun q => c1_4 (Int32.toInt_inj.mp q)
    · exact fun q => c1_5 (Int32.toInt_inj.mp q)
    · exact fun q => c1_6 (Int32.toInt_inj.mp q)
    · exact fun q => c1_7 (Int32.toInt_inj.mp q)
    · exact fun q => c1_8 (Int32.toInt_inj.mp q)
    · exact fun q => c1_9 (Int32.toInt_inj.mp q)
  refine lv_iconst (v := (-1)) hx hb dX11_count_133 (by decide) ?_
  obtain rfl := so hf
  exact q_iret B hw hz hc0 hr hlk dX11_count_134
/-! SecondLife.livedFault(II)I -/
def f_X11_livedFault_79 (n : Nat) (z : Sh) (h : Hp) : Nat → Nat → Nat → Int32 → Option (Int32)
  | 0, _, _, _ => none
  | i + 1, v0, v3, v4 =>
    (gI z h 9 v3 3).bind fun x1 =>
    if x1 ≤ v4 then
      some (0 : Int32)
    else
      (gR z h 11 v0 3).bind fun a3 =>
      (f_X9_number z h v3 v4).bind fun x4 =>
      (f_X8_hasTrade z h a3 x4).bind fun x5 =>
      if x5 = 0 then
        some (3 : Int32)
      else
        (some (v4 + 1)).bind fun x7 =>
        (f_X11_livedFault_79 n z h i) v0 v3 x7
def f_X11_livedFault (n : Nat) (z : Sh) (h : Hp) (v0 : Nat) (v1 : Int32) (v2 : Int32) : Option (Int32) :=
  if z.K v0 = 11 then
    (f_X11_trayAt z h v0 v1).bind fun o1 =>
    (match o1 with
    | none =>
      some (2 : Int32)
    | some a2 =>
      (gR z h 11 v0 4).bind fun a3 =>
      (f_X5_has z h a3 v2).bind fun x4 =>
      if x4 = 0 then
        some (2 : Int32)
      else
        (gI z h 9 a2 1).bind fun x6 =>
        if x6 = 0 then
          some (6 : Int32)
        else
          (gI z h 9 a2 3).bind fun x8 =>
          if x8 < 1 then
            some (4 : Int32)
          else
            (gI z h 9 a2 3).bind fun x10 =>
            if 12 < x10 then
              some (4 : Int32)
            else
              (gI z h 9 a2 3).bind fun x12 =>
              (gR z h 11 v0 3).bind fun a13 =>
              (gI z h 8 a13 0).bind fun x14 =>
              (gR z h 11 v0 4).bind fun a15 =>
              (f_X5_part z h a15 v2 0).bind fun x16 =>
              if x12 ≤ (x14 - x16) then
                f_X11_livedFault_79 n z h n v0 a2 0
              else
                some (4 : Int32))
  else none
theorem k_X11_livedFault {n : Nat} {z : Sh} {h : Hp} {v0 : Nat} {v1 : Int32} {v2 : Int32} {w : Int32} (hf : f_X11_livedFault n z h v0 v1 v2 = some w) : z.K v0 = 11 := by
  unfold f_X11_livedFault at hf
  exact (if_some hf).1
set_option maxHeartbeats 4000000 in
theorem w_X11_livedFault_79 {p : Program} {l : Launch} {e : Env} {s : State} {m : MethodId} {args : Array Value} {below : List Frame} {meth : Method} {c : Code} {s0 : State} {E : Ev} {z : Sh} {h : Hp} {n : Nat} {r : Int32} (G : Gl s0 E) (B : Bd p s0 s E m c cX11_livedFault 5 RX11) (hz : s0.heap.size ≤ z.sz) (hc0 : s.heap.size + 0 = z.sz) (hr : meth.sig.returnType = (some .int)) (hlk : meth.locks = false) : ∀ (i : Nat), ∀ (v0 : Nat) (v3 : Nat) (v4 : Int32) (H : Heap) (locs : List Loc) (ls : Array Slot), Pw s0 s E z h H locs → lv_has ls 5 [(0, .ref v0), (3, .ref v3), (4, .int v4)] → f_X11_livedFault_79 n z h i v0 v3 v4 = some r → W p l e (rmO 1 23) s m args below meth c H locs 0 0 (Zt below s0 E z h (some (.int r)) args s 0 0) (F0 m 79 ls []) := by
  have hx := B.1
  have hb := B.2.1
  intro i
  induction i with
  | zero =>
    intro v0 v3 v4 H locs ls hw hl hf
    have hf := (f_X11_livedFault_79.eq_1 ..).symm.trans hf
    cases hf
  | succ i ih =>
    intro v0 v3 v4 H locs ls hw hl hf
    have hf := (f_X11_livedFault_79.eq_2 ..).symm.trans hf
    refine lv_iload hx hb dX11_livedFault_79 (lv_at hl 2 rfl) ?_
    refine lv_aload_n hx hb dX11_livedFault_81 rfl (lv_at hl 1 rfl) ?_
    obtain ⟨x1, e, hf⟩ := ob hf
    refine q_getIN e B hw fd_9_3.1 fd_9_3.2.1 fd_9_3.2.2.1 fd_9_3.2.2.2.1 fd_9_3.2.2.2.2 rfl tw_2_92 dX11_livedFault_82 ?_
    refine lv_icmp_ge (tgt := 112) hx hb dX11_livedFault_85 (by decide) (fun c2 => ?_) (fun c2 => ?_)
    · have hf := (if_pos c2).symm.trans hf
      refine lv_iconst (v := 0) hx hb dX11_livedFault_112 (by decide) ?_
      obtain rfl := so hf
      exact q_iret B hw hz hc0 hr hlk dX11_livedFault_113
    · have hf := (if_neg c2).symm.trans hf
      refine lv_aload_n hx hb dX11_livedFault_88 rfl (lv_at hl 0 rfl) ?_
      obtain ⟨a3, e, hf⟩ := ob hf
      refine q_getR e B hw fd_11_3.1 fd_11_3.2.1 fd_11_3.2.2.1 fd_11_3.2.2.2.1 fd_11_3.2.2.2.2 rfl tw_2_105 dX11_livedFault_89 ?_
      refine lv_aload_n hx hb dX11_livedFault_92 rfl (lv_at hl 1 rfl) ?_
      refine lv_iload hx hb dX11_livedFault_93 (lv_at hl 2 rfl) ?_
      obtain ⟨x4, e, hf⟩ := ob hf
      refine q_callVN (As := [.int v4]) (rest := [.ref a3]) (st1 := [.long x4, .ref a3]) (c_X9_number G e) B hw hz hc0 (k_X9_number e) (by decide) (ci := 9) rfl rfl my_X9_number mv_X9_number tw_5_154 ⟨Nat.le_of_ble_eq_true rfl, Nat.le_of_ble_eq_true rfl⟩ ⟨Nat.zero_le _, Nat.zero_le _⟩ rfl hl.1 rfl rfl (Nat.le_of_ble_eq_true rfl) dX11_livedFault_95 (fun H locs hw => ?_)
      obtain ⟨x5, e, hf⟩ := ob hf
      refine q_callVN (As := [.long x4]) (rest := []) (st1 := [.int x5]) (c_X8_hasTrade G e) B hw hz hc0 (k_X8_hasTrade e) (by decide) (ci := 8) rfl rfl my_X8_hasTrade mv_X8_hasTrade tw_3_222 ⟨Nat.le_of_ble_eq_true rfl, Nat.le_of_ble_eq_true rfl⟩ ⟨Nat.zero_le _, Nat.zero_le _⟩ rfl hl.1 rfl rfl (Nat.le_of_ble_eq_true rfl) dX11_livedFault_98 (fun H locs hw => ?_)
      refine lv_if_ne (tgt := 106) hx hb dX11_livedFault_101 (by decide) (fun c6 => ?_) (fun c6 => ?_)
      · have hf := (if_neg c6).symm.trans hf
        obtain ⟨x7, e, hf⟩ := ob hf
        refine lv_iinc (v := x7) (lv' := [(4, .int x7), (0, .ref v0), (3, .ref v3)]) hx hb dX11_livedFault_106 hl (k := 2) rfl (Option.some.inj e) (by decide) rfl (fun ls hl => ?_)
        refine lv_goto (tgt := 79) hx hb dX11_livedFault_109 (by decide) ?_
        exact ih v0 v3 x7 _ _ _ hw (lv_sub hl [1, 2, 0] rfl) hf
      · have hf := (if_pos c6).symm.trans hf
        refine lv_iconst (v := 3) hx hb dX11_livedFault_104 (by decide) ?_
        obtain rfl := so hf
        exact q_iret B hw hz hc0 hr hlk dX11_livedFault_105
set_option maxHeartbeats 4000000 in
theorem c_X11_livedFault {l : Launch} {s0 : State} {E : Ev} (G : Gl s0 E) {n : Nat} {z : Sh} {h : Hp} {v0 : Nat} {v1 : Int32} {v2 : Int32} {r : Int32} (hf : f_X11_livedFault n z h v0 v1 v2 = some r) : Ct l s0 E yX11_livedFault cX11_livedFault 5 (some .int) 1 23 [.ref v0, .int v1, .int v2] z h h (some (.int r)) := by
  refine Ct.of G (by decide) (Nat.le_of_ble_eq_true rfl) ?_
  intro p e s m below meth c ls B hw hz hc0 hr hlk hl
  have B : Bd p s0 s E m c cX11_livedFault 5 RX11 := B
  have hx := B.1
  have hb := B.2.1
  have hl : lv_has ls 5 [(0, .ref v0), (1, .int v1), (2, .int v2)] := hl
  unfold f_X11_livedFault at hf
  obtain ⟨_, hf⟩ := if_some hf
  refine lv_aload_n hx hb dX11_livedFault_0 rfl (lv_at hl 0 rfl) ?_
  refine lv_iload_n hx hb dX11_livedFault_1 rfl (lv_at hl 1 rfl) ?_
  obtain ⟨o1, e, hf⟩ := ob hf
  refine q_callV (As := [.int v1]) (rest := []) (st1 := [va_rf o1]) (c_X11_trayAt G e) B hw hz hc0 (k_X11_trayAt e) (by decide) (ci := 11) rfl rfl my_X11_trayAt mv_X11_trayAt tw_4_91 ⟨Nat.le_of_ble_eq_true rfl, Nat.le_of_ble_eq_true rfl⟩ ⟨Nat.zero_le _, Nat.zero_le _⟩ rfl hl.1 rfl rfl (Nat.le_of_ble_eq_true rfl) dX11_livedFault_2 (fun H locs hw => ?_)
  rcases o1 with _ | a2
  · refine lv_astore_nN (lv' := [(3, .null), (0, .ref v0), (1, .int v1), (2, .int v2)]) hx hb dX11_livedFault_5 rfl hl (by decide) rfl (fun ls hl => ?_)
    refine lv_aload_nN hx hb dX11_livedFault_6 rfl (lv_at hl 0 rfl) ?_
    refine lv_ifnullN (tgt := 21) hx hb dX11_livedFault_7 (by decide) ?_
    refine lv_iconst (v := 2) hx hb dX11_livedFault_21 (by decide) ?_
    obtain rfl := so hf
    exact q_iret B hw hz hc0 hr hlk dX11_livedFault_22
  · refine lv_astore_n (lv' := [(3, .ref a2), (0, .ref v0), (1, .int v1), (2, .int v2)]) hx hb dX11_livedFault_5 rfl hl (by decide) rfl (fun ls hl => ?_)
    refine lv_aload_n hx hb dX11_livedFault_6 rfl (lv_at hl 0 rfl) ?_
    refine lv_ifnull hx hb dX11_livedFault_7 ?_
    refine lv_aload_n hx hb dX11_livedFault_10 rfl (lv_at hl 1 rfl) ?_
    obtain ⟨a3, e, hf⟩ := ob hf
    refine q_getR e B hw fd_11_4.1 fd_11_4.2.1 fd_11_4.2.2.1 fd_11_4.2.2.2.1 fd_11_4.2.2.2.2 rfl tw_2_106 dX11_livedFault_11 ?_
    refine lv_iload_n hx hb dX11_livedFault_14 rfl (lv_at hl 3 rfl) ?_
    obtain ⟨x4, e, hf⟩ := ob hf
    refine q_callVN (As := [.int v2]) (rest := []) (st1 := [.int x4]) (c_X5_has G e) B hw hz hc0 (k_X5_has e) (by decide) (ci := 5) rfl rfl my_X5_has mv_X5_has tw_3_210 ⟨Nat.le_of_ble_eq_true rfl, Nat.le_of_ble_eq_true rfl⟩ ⟨Nat.zero_le _, Nat.zero_le _⟩ rfl hl.1 rfl rfl (Nat.le_of_ble_eq_true rfl) dX11_livedFault_15 (fun H locs hw => ?_)
    refine lv_if_ne (tgt := 23) hx hb dX11_livedFault_18 (by decide) (fun c5 => ?_) (fun c5 => ?_)
    · have hf := (if_neg c5).symm.trans hf
      refine lv_aload_n hx hb dX11_livedFault_23 rfl (lv_at hl 0 rfl) ?_
      obtain ⟨x6, e, hf⟩ := ob hf
      refine q_getIN e B hw fd_9_1.1 fd_9_1.2.1 fd_9_1.2.2.1 fd_9_1.2.2.2.1 fd_9_1.2.2.2.2 rfl tw_2_87 dX11_livedFault_24 ?_
      refine lv_if_ne (tgt := 33) hx hb dX11_livedFault_27 (by decide) (fun c7 => ?_) (fun c7 => ?_)
      · have hf := (if_neg c7).symm.trans hf
        refine lv_aload_n hx hb dX11_livedFault_33 rfl (lv_at hl 0 rfl) ?_
        obtain ⟨x8, e, hf⟩ := ob hf
        refine q_getIN e B hw fd_9_3.1 fd_9_3.2.1 fd_9_3.2.2.1 fd_9_3.2.2.2.1 fd_9_3.2.2.2.2 rfl tw_2_92 dX11_livedFault_34 ?_
        refine lv_iconst (v := 1) hx hb dX11_livedFault_37 (by decide) ?_
        refine lv_icmp_lt (tgt := 74) hx hb dX11_livedFault_38 (by decide) (fun c9 => ?_) (fun c9 => ?_)
        · have hf := (if_pos c9).symm.trans hf
          refine lv_iconst (v := 4) hx hb dX11_livedFault_74 (by decide) ?_
          obtain rfl := so hf
          exact q_iret B hw hz hc0 hr hlk dX11_livedFault_75
        · have hf := (if_neg c9).symm.trans hf
          refine lv_aload_n hx hb dX11_livedFault_41 rfl (lv_at hl 0 rfl) ?_
          obtain ⟨x10, e, hf⟩ := ob hf
          refine q_getIN e B hw fd_9_3.1 fd_9_3.2.1 fd_9_3.2.2.1 fd_9_3.2.2.2.1 fd_9_3.2.2.2.2 rfl tw_2_92 dX11_livedFault_42 ?_
          refine lv_bipush (v := 12) hx hb dX11_livedFault_45 (by decide) ?_
          refine lv_icmp_gt (tgt := 74) hx hb dX11_livedFault_47 (by decide) (fun c11 => ?_) (fun c11 => ?_)
          · have hf := (if_pos c11).symm.trans hf
            refine lv_iconst (v := 4) hx hb dX11_livedFault_74 (by decide) ?_
            obtain rfl := so hf
            exact q_iret B hw hz hc0 hr hlk dX11_livedFault_75
          · have hf := (if_neg c11).symm.trans hf
            refine lv_aload_n hx hb dX11_livedFault_50 rfl (lv_at hl 0 rfl) ?_
            obtain ⟨x12, e, hf⟩ := ob hf
            refine q_getIN e B hw fd_9_3.1 fd_9_3.2.1 fd_9_3.2.2.1 fd_9_3.2.2.2.1 fd_9_3.2.2.2.2 rfl tw_2_92 dX11_livedFault_51 ?_
            refine lv_aload_n hx hb dX11_livedFault_54 rfl (lv_at hl 1 rfl) ?_
            obtain ⟨a13, e, hf⟩ := ob hf
            refine q_getR e B hw fd_11_3.1 fd_11_3.2.1 fd_11_3.2.2.1 fd_11_3.2.2.2.1 fd_11_3.2.2.2.2 rfl tw_2_105 dX11_livedFault_55 ?_
            obtain ⟨x14, e, hf⟩ := ob hf
            refine q_getIN e B hw fd_8_0.1 fd_8_0.2.1 fd_8_0.2.2.1 fd_8_0.2.2.2.1 fd_8_0.2.2.2.2 rfl tw_1_52 dX11_livedFault_58 ?_
            refine lv_aload_n hx hb dX11_livedFault_61 rfl (lv_at hl 1 rfl) ?_
            obtain ⟨a15, e, hf⟩ := ob hf
            refine q_getR e B hw fd_11_4.1 fd_11_4.2.1 fd_11_4.2.2.1 fd_11_4.2.2.2.1 fd_11_4.2.2.2.2 rfl tw_2_106 dX11_livedFault_62 ?_
            refine lv_iload_n hx hb dX11_livedFault_65 rfl (lv_at hl 3 rfl) ?_
            refine lv_iconst (v := 0) hx hb dX11_livedFault_66 (by decide) ?_
            obtain ⟨x16, e, hf⟩ := ob hf
            refine q_callVN (As := [.int v2, .int 0]) (rest := [.int x14, .int x12]) (st1 := [.int x16, .int x14, .int x12]) (c_X5_part G e) B hw hz hc0 (k_X5_part e) (by decide) (ci := 5) rfl rfl my_X5_part mv_X5_part tw_3_214 ⟨Nat.le_of_ble_eq_true rfl, Nat.le_of_ble_eq_true rfl⟩ ⟨Nat.zero_le _, Nat.zero_le _⟩ rfl hl.1 rfl rfl (Nat.le_of_ble_eq_true rfl) dX11_livedFault_67 (fun H locs hw => ?_)
            refine lv_isub hx hb dX11_livedFault_70 ?_
            refine lv_icmp_le (tgt := 76) hx hb dX11_livedFault_71 (by decide) (fun c17 => ?_) (fun c17 => ?_)
            · have hf := (if_pos c17).symm.trans hf
              refine lv_iconst (v := 0) hx hb dX11_livedFault_76 (by decide) ?_
              refine lv_istore (lv' := [(4, .int 0), (3, .ref a2), (0, .ref v0), (1, .int v1), (2, .int v2)]) hx hb dX11_livedFault_77 hl (by decide) rfl (fun ls hl => ?_)
              exact w_X11_livedFault_79 G B hz hc0 hr hlk  n v0 a2 0 _ _ _ hw (lv_sub hl [2, 1, 0] rfl) hf
            · have hf := (if_neg c17).symm.trans hf
              refine lv_iconst (v := 4) hx hb dX11_livedFault_74 (by decide) ?_
              obtain rfl := so hf
              exact q_iret B hw hz hc0 hr hlk dX11_livedFault_75
      · have hf := (if_pos c7).symm.trans hf
        refine lv_bipush (v := 6) hx hb dX11_livedFault_30 (by decide) ?_
        obtain rfl := so hf
        exact q_iret B hw hz hc0 hr hlk dX11_livedFault_32
    · have hf := (if_pos c5).symm.trans hf
      refine lv_iconst (v := 2) hx hb dX11_livedFault_21 (by decide) ?_
      obtain rfl := so hf
      exact q_iret B hw hz hc0 hr hlk dX11_livedFault_22
/-! SecondLifeModel.<init>()V -/
def f_X12_init (n : Nat) (z : Sh) (h : Hp) (v0 : Nat) : Option (Hp × Sh) :=
  if z.K v0 = 12 then
    gd2 z <|
    (nwA z h 14 4374).bind fun (a1, h2, z3) =>
    gd2 z3 <|
    (pR z3 h2 12 v0 1 (some a1)).bind fun h4 =>
    (nwA z3 h4 16 2).bind fun (a5, h6, z7) =>
    gd2 z7 <|
    (pR z7 h6 12 v0 2 (some a5)).bind fun h8 =>
    (nwA z7 h8 14 900).bind fun (a9, h10, z11) =>
    gd2 z11 <|
    (pR z11 h10 12 v0 3 (some a9)).bind fun h12 =>
    (nwA z11 h12 14 1458).bind fun (a13, h14, z15) =>
    gd2 z15 <|
    (pR z15 h14 12 v0 4 (some a13)).bind fun h16 =>
    (pI z15 h16 12 v0 14 (-1)).bind fun h17 =>
    (nwA z15 h17 14 900).bind fun (a18, h19, z20) =>
    gd2 z20 <|
    (pR z20 h19 12 v0 16 (some a18)).bind fun h21 =>
    (nwA z20 h21 14 7).bind fun (a22, h23, z24) =>
    gd2 z24 <|
    (pR z24 h23 12 v0 17 (some a22)).bind fun h25 =>
    (nwA z24 h25 14 49).bind fun (a26, h27, z28) =>
    gd2 z28 <|
    (pR z28 h27 12 v0 18 (some a26)).bind fun h29 =>
    (nwA z28 h29 14 3430).bind fun (a30, h31, z32) =>
    gd2 z32 <|
    (pR z32 h31 12 v0 21 (some a30)).bind fun h33 =>
    (nwA z32 h33 14 3430).bind fun (a34, h35, z36) =>
    gd2 z36 <|
    (pR z36 h35 12 v0 22 (some a34)).bind fun h37 =>
    (nwA z36 h37 15 3430).bind fun (a38, h39, z40) =>
    gd2 z40 <|
    (pR z40 h39 12 v0 23 (some a38)).bind fun h41 =>
    (nwA z40 h41 16 3430).bind fun (a42, h43, z44) =>
    gd2 z44 <|
    (pR z44 h43 12 v0 24 (some a42)).bind fun h45 =>
    (nwA z44 h45 14 3430).bind fun (a46, h47, z48) =>
    gd2 z48 <|
    (pR z48 h47 12 v0 27 (some a46)).bind fun h49 =>
    (nwA z48 h49 14 3430).bind fun (a50, h51, z52) =>
    gd2 z52 <|
    (pR z52 h51 12 v0 28 (some a50)).bind fun h53 =>
    (nwA z52 h53 15 3430).bind fun (a54, h55, z56) =>
    gd2 z56 <|
    (pR z56 h55 12 v0 29 (some a54)).bind fun h57 =>
    (nwA z56 h57 15 373870).bind fun (a58, h59, z60) =>
    gd2 z60 <|
    (pR z60 h59 12 v0 30 (some a58)).bind fun h61 =>
    (nwA z60 h61 14 19).bind fun (a62, h63, z64) =>
    gd2 z64 <|
    (pR z64 h63 12 v0 31 (some a62)).bind fun h65 =>
    (nwA z64 h65 14 4).bind fun (a66, h67, z68) =>
    gd2 z68 <|
    (stI z68 h67 a66 0 (-1)).bind fun h69 =>
    (stI z68 h69 a66 1 (-1)).bind fun h70 =>
    (stI z68 h70 a66 2 (-1)).bind fun h71 =>
    (stI z68 h71 a66 3 (-1)).bind fun h72 =>
    (pR z68 h72 12 v0 33 (some a66)).bind fun h73 =>
    (nwA z68 h73 14 4).bind fun (a74, h75, z76) =>
    gd2 z76 <|
    (pR z76 h75 12 v0 34 (some a74)).bind fun h77 =>
    (nwA z76 h77 15 160).bind fun (a78, h79, z80) =>
    gd2 z80 <|
    (pR z80 h79 12 v0 35 (some a78)).bind fun h81 =>
    (gR z80 h81 12 v0 1).bind fun a82 =>
    (f_X12_plain n z80 h81 a82).bind fun h83 =>
    some (h83, z80)
  else none
theorem k_X12_init {n : Nat} {z : Sh} {h : Hp} {v0 : Nat} {w : Hp × Sh} (hf : f_X12_init n z h v0 = some w) : z.K v0 = 12 := by
  unfold f_X12_init at hf
  exact (if_some hf).1
theorem mo_X12_init {n : Nat} {z : Sh} {h : Hp} {v0 : Nat} {h' : Hp} {zE : Sh} (hf : f_X12_init n z h v0 = some (h', zE)) : z.sz ≤ zE.sz ∧ z.sl ≤ zE.sl := by
  unfold f_X12_init at hf
  exact (gd2_some (if_some hf).2).1
set_option maxHeartbeats 4000000 in
theorem c_X12_init {l : Launch} {s0 : State} {E : Ev} (G : Gl s0 E) {n : Nat} {z : Sh} {h : Hp} {v0 : Nat} {h' : Hp} {zE : Sh} (hf : f_X12_init n z h v0 = some (h', zE)) : Ca l s0 E yX12_init cX12_init 1 none 1 24 [.ref v0] z zE h h' (none) := by
  refine Ca.of G (by decide +kernel) (Nat.le_of_ble_eq_true rfl) (mo_X12_init hf) ?_
  intro p e s m below meth c ls B hw hM hr hlk hnm0 hl
  have B : Bd p s0 s E m c cX12_init 1 RX12 := B
  have hx := B.1
  have hb := B.2.1
  have hl : lv_has ls 1 [(0, .ref v0)] := hl
  have hin : meth.name = "<init>" := hnm0
  unfold f_X12_init at hf
  obtain ⟨_, hf⟩ := if_some hf
  obtain ⟨_, hf⟩ := gd2_some hf
  refine lv_aload_n hx hb dX12_init_0 rfl (lv_at hl 0 rfl) ?_
  refine q_obj B hl.1 tw_6_38 tw_1_29 tw_1_30 (Nat.le_of_ble_eq_true rfl) (Nat.le_of_ble_eq_true rfl) dX12_init_1 ?_
  refine lv_aload_n hx hb dX12_init_4 rfl (lv_at hl 0 rfl) ?_
  refine lv_sipush (v := 4374) hx hb dX12_init_5 (by decide) ?_
  obtain ⟨⟨a1, h2, z3⟩, e, hf⟩ := ob hf
  obtain ⟨hg, hf⟩ := gd2_some hf
  refine q_newA (atype := .int) (ty := .int) (t0 := 1) e hg B hw hM (by decide) rfl rfl rfl (cfn_14 E _ _) arn_14 tw_1_102 dX12_init_8 (fun H locs hw hM => ?_)
  obtain ⟨h4, e, hf⟩ := ob hf
  refine q_putRF e B hw hin fd_12_1.1 fd_12_1.2.1 fd_12_1.2.2.1 fd_12_1.2.2.2.1 fd_12_1.2.2.2.2 rfl rfl rfl (tyX12_ok 1 (by decide)) (Or.inr ⟨_, rfl⟩) tyX12 tyX12_ok nmX12 tw_6_44 dX12_init_10 (fun H locs hw => ?_)
  refine lv_aload_n hx hb dX12_init_13 rfl (lv_at hl 0 rfl) ?_
  refine lv_iconst (v := 2) hx hb dX12_init_14 (by decide) ?_
  obtain ⟨⟨a5, h6, z7⟩, e, hf⟩ := ob hf
  obtain ⟨hg, hf⟩ := gd2_some hf
  refine q_newA (atype := .boolean) (ty := .boolean) (t0 := 3) e hg B hw hM (by decide) rfl rfl rfl (cfn_16 E _ _) arn_16 tw_6_152 dX12_init_15 (fun H locs hw hM => ?_)
  obtain ⟨h8, e, hf⟩ := ob hf
  refine q_putRF e B hw hin fd_12_2.1 fd_12_2.2.1 fd_12_2.2.2.1 fd_12_2.2.2.2.1 fd_12_2.2.2.2.2 rfl rfl rfl (tyX12_ok 2 (by decide)) (Or.inr ⟨_, rfl⟩) tyX12 tyX12_ok nmX12 tw_6_45 dX12_init_17 (fun H locs hw => ?_)
  refine lv_aload_n hx hb dX12_init_20 rfl (lv_at hl 0 rfl) ?_
  refine lv_sipush (v := 900) hx hb dX12_init_21 (by decide) ?_
  obtain ⟨⟨a9, h10, z11⟩, e, hf⟩ := ob hf
  obtain ⟨hg, hf⟩ := gd2_some hf
  refine q_newA (atype := .int) (ty := .int) (t0 := 1) e hg B hw hM (by decide) rfl rfl rfl (cfn_14 E _ _) arn_14 tw_1_102 dX12_init_24 (fun H locs hw hM => ?_)
  obtain ⟨h12, e, hf⟩ := ob hf
  refine q_putRF e B hw hin fd_12_3.1 fd_12_3.2.1 fd_12_3.2.2.1 fd_12_3.2.2.2.1 fd_12_3.2.2.2.2 rfl rfl rfl (tyX12_ok 3 (by decide)) (Or.inr ⟨_, rfl⟩) tyX12 tyX12_ok nmX12 tw_6_46 dX12_init_26 (fun H locs hw => ?_)
  refine lv_aload_n hx hb dX12_init_29 rfl (lv_at hl 0 rfl) ?_
  refine lv_sipush (v := 1458) hx hb dX12_init_30 (by decide) ?_
  obtain ⟨⟨a13, h14, z15⟩, e, hf⟩ := ob hf
  obtain ⟨hg, hf⟩ := gd2_some hf
  refine q_newA (atype := .int) (ty := .int) (t0 := 1) e hg B hw hM (by decide) rfl rfl rfl (cfn_14 E _ _) arn_14 tw_1_102 dX12_init_33 (fun H locs hw hM => ?_)
  obtain ⟨h16, e, hf⟩ := ob hf
  refine q_putRF e B hw hin fd_12_4.1 fd_12_4.2.1 fd_12_4.2.2.1 fd_12_4.2.2.2.1 fd_12_4.2.2.2.2 rfl rfl rfl (tyX12_ok 4 (by decide)) (Or.inr ⟨_, rfl⟩) tyX12 tyX12_ok nmX12 tw_6_47 dX12_init_35 (fun H locs hw => ?_)
  refine lv_aload_n hx hb dX12_init_38 rfl (lv_at hl 0 rfl) ?_
  refine lv_iconst (v := (-1)) hx hb dX12_init_39 (by decide) ?_
  obtain ⟨h17, e, hf⟩ := ob hf
  refine q_putI e B hw fd_12_14.1 fd_12_14.2.1 fd_12_14.2.2.1 fd_12_14.2.2.2.1 fd_12_14.2.2.2.2 rfl rfl (tyX12_ok 14 (by decide)) tyX12 tyX12_ok nmX12 tw_6_57 dX12_init_40 (fun H locs hw => ?_)
  refine lv_aload_n hx hb dX12_init_43 rfl (lv_at hl 0 rfl) ?_
  refine lv_sipush (v := 900) hx hb dX12_init_44 (by decide) ?_
  obtain ⟨⟨a18, h19, z20⟩, e, hf⟩ := ob hf
  obtain ⟨hg, hf⟩ := gd2_some hf
  refine q_newA (atype := .int) (ty := .int) (t0 := 1) e hg B hw hM (by decide) rfl rfl rfl (cfn_14 E _ _) arn_14 tw_1_102 dX12_init_47 (fun H locs hw hM => ?_)
  obtain ⟨h21, e, hf⟩ := ob hf
  refine q_putRF e B hw hin fd_12_16.1 fd_12_16.2.1 fd_12_16.2.2.1 fd_12_16.2.2.2.1 fd_12_16.2.2.2.2 rfl rfl rfl (tyX12_ok 16 (by decide)) (Or.inr ⟨_, rfl⟩) tyX12 tyX12_ok nmX12 tw_6_59 dX12_init_49 (fun H locs hw => ?_)
  refine lv_aload_n hx hb dX12_init_52 rfl (lv_at hl 0 rfl) ?_
  refine lv_bipush (v := 7) hx hb dX12_init_53 (by decide) ?_
  obtain ⟨⟨a22, h23, z24⟩, e, hf⟩ := ob hf
  obtain ⟨hg, hf⟩ := gd2_some hf
  refine q_newA (atype := .int) (ty := .int) (t0 := 1) e hg B hw hM (by decide) rfl rfl rfl (cfn_14 E _ _) arn_14 tw_1_102 dX12_init_55 (fun H locs hw hM => ?_)
  obtain ⟨h25, e, hf⟩ := ob hf
  refine q_putRF e B hw hin fd_12_17.1 fd_12_17.2.1 fd_12_17.2.2.1 fd_12_17.2.2.2.1 fd_12_17.2.2.2.2 rfl rfl rfl (tyX12_ok 17 (by decide)) (Or.inr ⟨_, rfl⟩) tyX12 tyX12_ok nmX12 tw_6_60 dX12_init_57 (fun H locs hw => ?_)
  refine lv_aload_n hx hb dX12_init_60 rfl (lv_at hl 0 rfl) ?_
  refine lv_bipush (v := 49) hx hb dX12_init_61 (by decide) ?_
  obtain ⟨⟨a26, h27, z28⟩, e, hf⟩ := ob hf
  obtain ⟨hg, hf⟩ := gd2_some hf
  refine q_newA (atype := .int) (ty := .int) (t0 := 1) e hg B hw hM (by decide) rfl rfl rfl (cfn_14 E _ _) arn_14 tw_1_102 dX12_init_63 (fun H locs hw hM => ?_)
  obtain ⟨h29, e, hf⟩ := ob hf
  refine q_putRF e B hw hin fd_12_18.1 fd_12_18.2.1 fd_12_18.2.2.1 fd_12_18.2.2.2.1 fd_12_18.2.2.2.2 rfl rfl rfl (tyX12_ok 18 (by decide)) (Or.inr ⟨_, rfl⟩) tyX12 tyX12_ok nmX12 tw_6_61 dX12_init_65 (fun H locs hw => ?_)
  refine lv_aload_n hx hb dX12_init_68 rfl (lv_at hl 0 rfl) ?_
  refine lv_sipush (v := 3430) hx hb dX12_init_69 (by decide) ?_
  obtain ⟨⟨a30, h31, z32⟩, e, hf⟩ := ob hf
  obtain ⟨hg, hf⟩ := gd2_some hf
  refine q_newA (atype := .int) (ty := .int) (t0 := 1) e hg B hw hM (by decide) rfl rfl rfl (cfn_14 E _ _) arn_14 tw_1_102 dX12_init_72 (fun H locs hw hM => ?_)
  obtain ⟨h33, e, hf⟩ := ob hf
  refine q_putRF e B hw hin fd_12_21.1 fd_12_21.2.1 fd_12_21.2.2.1 fd_12_21.2.2.2.1 fd_12_21.2.2.2.2 rfl rfl rfl (tyX12_ok 21 (by decide)) (Or.inr ⟨_, rfl⟩) tyX12 tyX12_ok nmX12 tw_6_64 dX12_init_74 (fun H locs hw => ?_)
  refine lv_aload_n hx hb dX12_init_77 rfl (lv_at hl 0 rfl) ?_
  refine lv_sipush (v := 3430) hx hb dX12_init_78 (by decide) ?_
  obtain ⟨⟨a34, h35, z36⟩, e, hf⟩ := ob hf
  obtain ⟨hg, hf⟩ := gd2_some hf
  refine q_newA (atype := .int) (ty := .int) (t0 := 1) e hg B hw hM (by decide) rfl rfl rfl (cfn_14 E _ _) arn_14 tw_1_102 dX12_init_81 (fun H locs hw hM => ?_)
  obtain ⟨h37, e, hf⟩ := ob hf
  refine q_putRF e B hw hin fd_12_22.1 fd_12_22.2.1 fd_12_22.2.2.1 fd_12_22.2.2.2.1 fd_12_22.2.2.2.2 rfl rfl rfl (tyX12_ok 22 (by decide)) (Or.inr ⟨_, rfl⟩) tyX12 tyX12_ok nmX12 tw_6_65 dX12_init_83 (fun H locs hw => ?_)
  refine lv_aload_n hx hb dX12_init_86 rfl (lv_at hl 0 rfl) ?_
  refine lv_sipush (v := 3430) hx hb dX12_init_87 (by decide) ?_
  obtain ⟨⟨a38, h39, z40⟩, e, hf⟩ := ob hf
  obtain ⟨hg, hf⟩ := gd2_some hf
  refine q_newA (atype := .long) (ty := .long) (t0 := 2) e hg B hw hM (by decide) rfl rfl rfl (cfn_15 E _ _) arn_15 tw_2_42 dX12_init_90 (fun H locs hw hM => ?_)
  obtain ⟨h41, e, hf⟩ := ob hf
  refine q_putRF e B hw hin fd_12_23.1 fd_12_23.2.1 fd_12_23.2.2.1 fd_12_23.2.2.2.1 fd_12_23.2.2.2.2 rfl rfl rfl (tyX12_ok 23 (by decide)) (Or.inr ⟨_, rfl⟩) tyX12 tyX12_ok nmX12 tw_6_66 dX12_init_92 (fun H locs hw => ?_)
  refine lv_aload_n hx hb dX12_init_95 rfl (lv_at hl 0 rfl) ?_
  refine lv_sipush (v := 3430) hx hb dX12_init_96 (by decide) ?_
  obtain ⟨⟨a42, h43, z44⟩, e, hf⟩ := ob hf
  obtain ⟨hg, hf⟩ := gd2_some hf
  refine q_newA (atype := .boolean) (ty := .boolean) (t0 := 3) e hg B hw hM (by decide) rfl rfl rfl (cfn_16 E _ _) arn_16 tw_6_152 dX12_init_99 (fun H locs hw hM => ?_)
  obtain ⟨h45, e, hf⟩ := ob hf
  refine q_putRF e B hw hin fd_12_24.1 fd_12_24.2.1 fd_12_24.2.2.1 fd_12_24.2.2.2.1 fd_12_24.2.2.2.2 rfl rfl rfl (tyX12_ok 24 (by decide)) (Or.inr ⟨_, rfl⟩) tyX12 tyX12_ok nmX12 tw_6_67 dX12_init_101 (fun H locs hw => ?_)
  refine lv_aload_n hx hb dX12_init_104 rfl (lv_at hl 0 rfl) ?_
  refine lv_sipush (v := 3430) hx hb dX12_init_105 (by decide) ?_
  obtain ⟨⟨a46, h47, z48⟩, e, hf⟩ := ob hf
  obtain ⟨hg, hf⟩ := gd2_some hf
  refine q_newA (atype := .int) (ty := .int) (t0 := 1) e hg B hw hM (by decide) rfl rfl rfl (cfn_14 E _ _) arn_14 tw_1_102 dX12_init_108 (fun H locs hw hM => ?_)
  obtain ⟨h49, e, hf⟩ := ob hf
  refine q_putRF e B hw hin fd_12_27.1 fd_12_27.2.1 fd_12_27.2.2.1 fd_12_27.2.2.2.1 fd_12_27.2.2.2.2 rfl rfl rfl (tyX12_ok 27 (by decide)) (Or.inr ⟨_, rfl⟩) tyX12 tyX12_ok nmX12 tw_6_70 dX12_init_110 (fun H locs hw => ?_)
  refine lv_aload_n hx hb dX12_init_113 rfl (lv_at hl 0 rfl) ?_
  refine lv_sipush (v := 3430) hx hb dX12_init_114 (by decide) ?_
  obtain ⟨⟨a50, h51, z52⟩, e, hf⟩ := ob hf
  obtain ⟨hg, hf⟩ := gd2_some hf
  refine q_newA (atype := .int) (ty := .int) (t0 := 1) e hg B hw hM (by decide) rfl rfl rfl (cfn_14 E _ _) arn_14 tw_1_102 dX12_init_117 (fun H locs hw hM => ?_)
  obtain ⟨h53, e, hf⟩ := ob hf
  refine q_putRF e B hw hin fd_12_28.1 fd_12_28.2.1 fd_12_28.2.2.1 fd_12_28.2.2.2.1 fd_12_28.2.2.2.2 rfl rfl rfl (tyX12_ok 28 (by decide)) (Or.inr ⟨_, rfl⟩) tyX12 tyX12_ok nmX12 tw_6_71 dX12_init_119 (fun H locs hw => ?_)
  refine lv_aload_n hx hb dX12_init_122 rfl (lv_at hl 0 rfl) ?_
  refine lv_sipush (v := 3430) hx hb dX12_init_123 (by decide) ?_
  obtain ⟨⟨a54, h55, z56⟩, e, hf⟩ := ob hf
  obtain ⟨hg, hf⟩ := gd2_some hf
  refine q_newA (atype := .long) (ty := .long) (t0 := 2) e hg B hw hM (by decide) rfl rfl rfl (cfn_15 E _ _) arn_15 tw_2_42 dX12_init_126 (fun H locs hw hM => ?_)
  obtain ⟨h57, e, hf⟩ := ob hf
  refine q_putRF e B hw hin fd_12_29.1 fd_12_29.2.1 fd_12_29.2.2.1 fd_12_29.2.2.2.1 fd_12_29.2.2.2.2 rfl rfl rfl (tyX12_ok 29 (by decide)) (Or.inr ⟨_, rfl⟩) tyX12 tyX12_ok nmX12 tw_6_72 dX12_init_128 (fun H locs hw => ?_)
  refine lv_aload_n hx hb dX12_init_131 rfl (lv_at hl 0 rfl) ?_
  refine lv_ldc hx hb B.2.2.2.1 (B.w tw_6_39 rfl) dX12_init_132 ?_
  obtain ⟨⟨a58, h59, z60⟩, e, hf⟩ := ob hf
  obtain ⟨hg, hf⟩ := gd2_some hf
  refine q_newA (atype := .long) (ty := .long) (t0 := 2) e hg B hw hM (by decide) rfl rfl rfl (cfn_15 E _ _) arn_15 tw_2_42 dX12_init_134 (fun H locs hw hM => ?_)
  obtain ⟨h61, e, hf⟩ := ob hf
  refine q_putRF e B hw hin fd_12_30.1 fd_12_30.2.1 fd_12_30.2.2.1 fd_12_30.2.2.2.1 fd_12_30.2.2.2.2 rfl rfl rfl (tyX12_ok 30 (by decide)) (Or.inr ⟨_, rfl⟩) tyX12 tyX12_ok nmX12 tw_6_73 dX12_init_136 (fun H locs hw => ?_)
  refine lv_aload_n hx hb dX12_init_139 rfl (lv_at hl 0 rfl) ?_
  refine lv_bipush (v := 19) hx hb dX12_init_140 (by decide) ?_
  obtain ⟨⟨a62, h63, z64⟩, e, hf⟩ := ob hf
  obtain ⟨hg, hf⟩ := gd2_some hf
  refine q_newA (atype := .int) (ty := .int) (t0 := 1) e hg B hw hM (by decide) rfl rfl rfl (cfn_14 E _ _) arn_14 tw_1_102 dX12_init_142 (fun H locs hw hM => ?_)
  obtain ⟨h65, e, hf⟩ := ob hf
  refine q_putRF e B hw hin fd_12_31.1 fd_12_31.2.1 fd_12_31.2.2.1 fd_12_31.2.2.2.1 fd_12_31.2.2.2.2 rfl rfl rfl (tyX12_ok 31 (by decide)) (Or.inr ⟨_, rfl⟩) tyX12 tyX12_ok nmX12 tw_6_74 dX12_init_144 (fun H locs hw => ?_)
  refine lv_aload_n hx hb dX12_init_147 rfl (lv_at hl 0 rfl) ?_
  refine lv_iconst (v := 4) hx hb dX12_init_148 (by decide) ?_
  obtain ⟨⟨a66, h67, z68⟩, e, hf⟩ := ob hf
  obtain ⟨hg, hf⟩ := gd2_some hf
  refine q_newA (atype := .int) (ty := .int) (t0 := 1) e hg B hw hM (by decide) rfl rfl rfl (cfn_14 E _ _) arn_14 tw_1_102 dX12_init_149 (fun H locs hw hM => ?_)
  refine lv_dup hx hb dX12_init_151 rfl ?_
  refine lv_iconst (v := 0) hx hb dX12_init_152 (by decide) ?_
  refine lv_iconst (v := (-1)) hx hb dX12_init_153 (by decide) ?_
  obtain ⟨h69, e, hf⟩ := ob hf
  refine q_stI e B hw dX12_init_154 (fun H locs hw => ?_)
  refine lv_dup hx hb dX12_init_155 rfl ?_
  refine lv_iconst (v := 1) hx hb dX12_init_156 (by decide) ?_
  refine lv_iconst (v := (-1)) hx hb dX12_init_157 (by decide) ?_
  obtain ⟨h70, e, hf⟩ := ob hf
  refine q_stI e B hw dX12_init_158 (fun H locs hw => ?_)
  refine lv_dup hx hb dX12_init_159 rfl ?_
  refine lv_iconst (v := 2) hx hb dX12_init_160 (by decide) ?_
  refine lv_iconst (v := (-1)) hx hb dX12_init_161 (by decide) ?_
  obtain ⟨h71, e, hf⟩ := ob hf
  refine q_stI e B hw dX12_init_162 (fun H locs hw => ?_)
  refine lv_dup hx hb dX12_init_163 rfl ?_
  refine lv_iconst (v := 3) hx hb dX12_init_164 (by decide) ?_
  refine lv_iconst (v := (-1)) hx hb dX12_init_165 (by decide) ?_
  obtain ⟨h72, e, hf⟩ := ob hf
  refine q_stI e B hw dX12_init_166 (fun H locs hw => ?_)
  obtain ⟨h73, e, hf⟩ := ob hf
  refine q_putRF e B hw hin fd_12_33.1 fd_12_33.2.1 fd_12_33.2.2.1 fd_12_33.2.2.2.1 fd_12_33.2.2.2.2 rfl rfl rfl (tyX12_ok 33 (by decide)) (Or.inr ⟨_, rfl⟩) tyX12 tyX12_ok nmX12 tw_6_76 dX12_init_167 (fun H locs hw => ?_)
  refine lv_aload_n hx hb dX12_init_170 rfl (lv_at hl 0 rfl) ?_
  refine lv_iconst (v := 4) hx hb dX12_init_171 (by decide) ?_
  obtain ⟨⟨a74, h75, z76⟩, e, hf⟩ := ob hf
  obtain ⟨hg, hf⟩ := gd2_some hf
  refine q_newA (atype := .int) (ty := .int) (t0 := 1) e hg B hw hM (by decide) rfl rfl rfl (cfn_14 E _ _) arn_14 tw_1_102 dX12_init_172 (fun H locs hw hM => ?_)
  obtain ⟨h77, e, hf⟩ := ob hf
  refine q_putRF e B hw hin fd_12_34.1 fd_12_34.2.1 fd_12_34.2.2.1 fd_12_34.2.2.2.1 fd_12_34.2.2.2.2 rfl rfl rfl (tyX12_ok 34 (by decide)) (Or.inr ⟨_, rfl⟩) tyX12 tyX12_ok nmX12 tw_6_77 dX12_init_174 (fun H locs hw => ?_)
  refine lv_aload_n hx hb dX12_init_177 rfl (lv_at hl 0 rfl) ?_
  refine lv_sipush (v := 160) hx hb dX12_init_178 (by decide) ?_
  obtain ⟨⟨a78, h79, z80⟩, e, hf⟩ := ob hf
  obtain ⟨hg, hf⟩ := gd2_some hf
  refine q_newA (atype := .long) (ty := .long) (t0 := 2) e hg B hw hM (by decide) rfl rfl rfl (cfn_15 E _ _) arn_15 tw_2_42 dX12_init_181 (fun H locs hw hM => ?_)
  obtain ⟨h81, e, hf⟩ := ob hf
  refine q_putRF e B hw hin fd_12_35.1 fd_12_35.2.1 fd_12_35.2.2.1 fd_12_35.2.2.2.1 fd_12_35.2.2.2.2 rfl rfl rfl (tyX12_ok 35 (by decide)) (Or.inr ⟨_, rfl⟩) tyX12 tyX12_ok nmX12 tw_6_78 dX12_init_183 (fun H locs hw => ?_)
  refine lv_aload_n hx hb dX12_init_186 rfl (lv_at hl 0 rfl) ?_
  obtain ⟨a82, e, hf⟩ := ob hf
  refine q_getR e B hw fd_12_1.1 fd_12_1.2.1 fd_12_1.2.2.1 fd_12_1.2.2.2.1 fd_12_1.2.2.2.2 rfl tw_6_44 dX12_init_187 ?_
  obtain ⟨h83, e, hf⟩ := ob hf
  refine q_callS (As := [.ref a82]) (rest := []) (st1 := []) (c_X12_plain G e) B hw hM.hz hM.hc0 my_X12_plain mv_X12_plain tw_6_40 ⟨Nat.le_of_ble_eq_true rfl, Nat.le_of_ble_eq_true rfl⟩ hM.hcs rfl hl.1 rfl rfl (Nat.le_of_ble_eq_true rfl) dX12_init_190 (fun H locs hw => ?_)
  obtain ⟨rfl, rfl⟩ := so2 hf
  exact q_vret B hw hM.hz hM.hc0 hr hlk dX12_init_193
