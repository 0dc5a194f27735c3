/-! SecondLife.fittingTalents(LSecondLife$Tray;II)I -/
def f_X11_fittingTalents_113 (n : Nat) (z : Sh) (k6 : Hp → Nat → Nat → Int32 → Int32 → Int32 → Int32 → Option (Int32 × Hp)) (h : Hp) (v0 : Nat) (v1 : Nat) (v2 : Int32) (v3 : Int32) (v4 : Int32) (v5 : Int32) : Option (Int32 × Hp) :=
  (some (v5 + 1)).bind fun x1 =>
  k6 h v0 v1 v2 v3 v4 x1
def f_X11_fittingTalents_43 (n : Nat) (z : Sh) (k6 : Hp → Nat → Nat → Int32 → Int32 → Int32 → Int32 → Option (Int32 × Hp)) : Nat → Hp → Nat → Nat → Int32 → Int32 → Int32 → Int32 → Int32 → Option (Int32 × Hp)
  | 0, _, _, _, _, _, _, _, _ => none
  | i + 1, h, v0, v1, v2, v3, v4, v5, v6 =>
    (gI z h 9 v1 3).bind fun x1 =>
    if x1 ≤ v6 then
      (gR z h 11 v0 5).bind fun a3 =>
      (f_X5_part z h a3 v2 2).bind fun x4 =>
      (gR z h 11 v0 4).bind fun a5 =>
      (f_X5_part z h a5 v2 2).bind fun x6 =>
      if (x4 - x6) = v3 then
        (some (v4 ||| ((1 : Int32) <<< (v5 &&& 31)))).bind fun x8 =>
        f_X11_fittingTalents_113 n z k6 h v0 v1 v2 v3 x8 v5
      else
        f_X11_fittingTalents_113 n z k6 h v0 v1 v2 v3 v4 v5
    else
      (gR z h 11 v0 11).bind fun a9 =>
      (gR z h 11 v0 3).bind fun a10 =>
      (gR z h 11 v0 5).bind fun a11 =>
      (f_X9_number z h v1 v6).bind fun x12 =>
      (f_X2_lives n z h a9 a10 a11 v2 x12).bind fun (x13, h14) =>
      (some (v6 + 1)).bind fun x15 =>
      (f_X11_fittingTalents_43 n z k6 i) h14 v0 v1 v2 v3 v4 v5 x15
def f_X11_fittingTalents_6 (n : Nat) (z : Sh) : Nat → Hp → Nat → Nat → Int32 → Int32 → Int32 → Int32 → Option (Int32 × Hp)
  | 0, _, _, _, _, _, _, _ => none
  | i + 1, h, v0, v1, v2, v3, v4, v5 =>
    if 10 ≤ v5 then
      some (v4, h)
    else
      (gR z h 11 v0 5).bind fun a2 =>
      (gR z h 11 v0 4).bind fun a3 =>
      (f_X5_copy z h a2 a3).bind fun h4 =>
      (gR z h4 11 v0 5).bind fun a5 =>
      (f_X5_put z h4 a5 v2 6 v5).bind fun h6 =>
      f_X11_fittingTalents_43 n z (f_X11_fittingTalents_6 n z i) n h6 v0 v1 v2 v3 v4 v5 0
def f_X11_fittingTalents (n : Nat) (z : Sh) (h : Hp) (v0 : Nat) (v1 : Nat) (v2 : Int32) (v3 : Int32) : Option (Int32 × Hp) :=
  if z.K v0 = 11 then
    f_X11_fittingTalents_6 n z n h v0 v1 v2 v3 0 0
  else none
theorem k_X11_fittingTalents {n : Nat} {z : Sh} {h : Hp} {v0 : Nat} {v1 : Nat} {v2 : Int32} {v3 : Int32} {w : Int32 × Hp} (hf : f_X11_fittingTalents n z h v0 v1 v2 v3 = some w) : z.K v0 = 11 := by
  unfold f_X11_fittingTalents at hf
  exact (if_some hf).1
set_option maxHeartbeats 4000000 in
theorem w_X11_fittingTalents_113 {p : Program} {l : Launch} {e : Env} {s : State} {m : MethodId} {args : Array Value} {below : List Frame} {meth : Method} {c : Code} {s0 : State} {E : Ev} {z : Sh} {n : Nat} {k6 : Hp → Nat → Nat → Int32 → Int32 → Int32 → Int32 → Option (Int32 × Hp)} {r : Int32} {h' : Hp} (G : Gl s0 E) (B : Bd p s0 s E m c cX11_fittingTalents 7 RX11) (hz : s0.heap.size ≤ z.sz) (hc0 : s.heap.size + 0 = z.sz) (hr : meth.sig.returnType = (some .int)) (hlk : meth.locks = false) (hk6 : ∀ (h : Hp) (v0 : Nat) (v1 : Nat) (v2 : Int32) (v3 : Int32) (v4 : Int32) (v5 : Int32) (H : Heap) (locs : List Loc) (ls : Array Slot), Pw s0 s E z h H locs → lv_has ls 7 [(0, .ref v0), (1, .ref v1), (2, .int v2), (3, .int v3), (4, .int v4), (5, .int v5)] → k6 h v0 v1 v2 v3 v4 v5 = some (r, h') → W p l e (rmO 5 121) s m args below meth c H locs 0 0 (Zt below s0 E z h' (some (.int r)) args s 0 0) (F0 m 6 ls [])) : ∀ (h : Hp) (v0 : Nat) (v1 : Nat) (v2 : Int32) (v3 : Int32) (v4 : Int32) (v5 : Int32) (H : Heap) (locs : List Loc) (ls : Array Slot), Pw s0 s E z h H locs → lv_has ls 7 [(0, .ref v0), (1, .ref v1), (2, .int v2), (3, .int v3), (4, .int v4), (5, .int v5)] → f_X11_fittingTalents_113 n z k6 h v0 v1 v2 v3 v4 v5 = some (r, h') → W p l e (rmO 5 121) s m args below meth c H locs 0 0 (Zt below s0 E z h' (some (.int r)) args s 0 0) (F0 m 113 ls []) := by
  have hx := B.1
  have hb := B.2.1
  intro h v0 v1 v2 v3 v4 v5 H locs ls hw hl hf
  unfold f_X11_fittingTalents_113 at hf
  obtain ⟨x1, e, hf⟩ := ob hf
  refine lv_iinc (v := x1) (lv' := [(5, .int x1), (0, .ref v0), (1, .ref v1), (2, .int v2), (3, .int v3), (4, .int v4)]) hx hb dX11_fittingTalents_113 hl (k := 5) rfl (Option.some.inj e) (by decide) rfl (fun ls hl => ?_)
  refine lv_goto (tgt := 6) hx hb dX11_fittingTalents_116 (by decide) ?_
  exact hk6 h v0 v1 v2 v3 v4 x1 _ _ _ hw (lv_sub hl [1, 2, 3, 4, 5, 0] rfl) hf
set_option maxHeartbeats 4000000 in
theorem w_X11_fittingTalents_43 {p : Program} {l : Launch} {e : Env} {s : State} {m : MethodId} {args : Array Value} {below : List Frame} {meth : Method} {c : Code} {s0 : State} {E : Ev} {z : Sh} {n : Nat} {k6 : Hp → Nat → Nat → Int32 → Int32 → Int32 → Int32 → Option (Int32 × Hp)} {r : Int32} {h' : Hp} (G : Gl s0 E) (B : Bd p s0 s E m c cX11_fittingTalents 7 RX11) (hz : s0.heap.size ≤ z.sz) (hc0 : s.heap.size + 0 = z.sz) (hr : meth.sig.returnType = (some .int)) (hlk : meth.locks = false) (hk6 : ∀ (h : Hp) (v0 : Nat) (v1 : Nat) (v2 : Int32) (v3 : Int32) (v4 : Int32) (v5 : Int32) (H : Heap) (locs : List Loc) (ls : Array Slot), Pw s0 s E z h H locs → lv_has ls 7 [(0, .ref v0), (1, .ref v1), (2, .int v2), (3, .int v3), (4, .int v4), (5, .int v5)] → k6 h v0 v1 v2 v3 v4 v5 = some (r, h') → W p l e (rmO 5 121) s m args below meth c H locs 0 0 (Zt below s0 E z h' (some (.int r)) args s 0 0) (F0 m 6 ls [])) : ∀ (i : Nat), ∀ (h : Hp) (v0 : Nat) (v1 : Nat) (v2 : Int32) (v3 : Int32) (v4 : Int32) (v5 : Int32) (v6 : Int32) (H : Heap) (locs : List Loc) (ls : Array Slot), Pw s0 s E z h H locs → lv_has ls 7 [(0, .ref v0), (1, .ref v1), (2, .int v2), (3, .int v3), (4, .int v4), (5, .int v5), (6, .int v6)] → f_X11_fittingTalents_43 n z k6 i h v0 v1 v2 v3 v4 v5 v6 = some (r, h') → W p l e (rmO 5 121) s m args below meth c H locs 0 0 (Zt below s0 E z h' (some (.int r)) args s 0 0) (F0 m 43 ls []) := by
  have hx := B.1
  have hb := B.2.1
  intro i
  induction i with
  | zero =>
    intro h v0 v1 v2 v3 v4 v5 v6 H locs ls hw hl hf
    have hf := (f_X11_fittingTalents_43.eq_1 ..).symm.trans hf
    cases hf
  | succ i ih =>
    intro h v0 v1 v2 v3 v4 v5 v6 H locs ls hw hl hf
    have hf := (f_X11_fittingTalents_43.eq_2 ..).symm.trans hf
    refine lv_iload hx hb dX11_fittingTalents_43 (lv_at hl 6 rfl) ?_
    refine lv_aload_n hx hb dX11_fittingTalents_45 rfl (lv_at hl 1 rfl) ?_
    obtain ⟨x1, e, hf⟩ := ob hf
    refine q_getIN e B hw fd_9_3.1 fd_9_3.2.1 fd_9_3.2.2.1 fd_9_3.2.2.2.1 fd_9_3.2.2.2.2 rfl tw_2_92 dX11_fittingTalents_46 ?_
    refine lv_icmp_ge (tgt := 81) hx hb dX11_fittingTalents_49 (by decide) (fun c2 => ?_) (fun c2 => ?_)
    · have hf := (if_pos c2).symm.trans hf
      refine lv_aload_n hx hb dX11_fittingTalents_81 rfl (lv_at hl 0 rfl) ?_
      obtain ⟨a3, e, hf⟩ := ob hf
      refine q_getR e B hw fd_11_5.1 fd_11_5.2.1 fd_11_5.2.2.1 fd_11_5.2.2.2.1 fd_11_5.2.2.2.2 rfl tw_2_107 dX11_fittingTalents_82 ?_
      refine lv_iload_n hx hb dX11_fittingTalents_85 rfl (lv_at hl 2 rfl) ?_
      refine lv_iconst (v := 2) hx hb dX11_fittingTalents_86 (by decide) ?_
      obtain ⟨x4, e, hf⟩ := ob hf
      refine q_callVN (As := [.int v2, .int 2]) (rest := []) (st1 := [.int x4]) (c_X5_part G e) B hw hz hc0 (k_X5_part e) (by decide) (ci := 5) rfl rfl my_X5_part mv_X5_part tw_3_218 ⟨Nat.le_of_ble_eq_true rfl, Nat.le_of_ble_eq_true rfl⟩ ⟨Nat.zero_le _, Nat.zero_le _⟩ rfl hl.1 rfl rfl (Nat.le_of_ble_eq_true rfl) dX11_fittingTalents_87 (fun H locs hw => ?_)
      refine lv_aload_n hx hb dX11_fittingTalents_90 rfl (lv_at hl 0 rfl) ?_
      obtain ⟨a5, e, hf⟩ := ob hf
      refine q_getR e B hw fd_11_4.1 fd_11_4.2.1 fd_11_4.2.2.1 fd_11_4.2.2.2.1 fd_11_4.2.2.2.2 rfl tw_2_106 dX11_fittingTalents_91 ?_
      refine lv_iload_n hx hb dX11_fittingTalents_94 rfl (lv_at hl 2 rfl) ?_
      refine lv_iconst (v := 2) hx hb dX11_fittingTalents_95 (by decide) ?_
      obtain ⟨x6, e, hf⟩ := ob hf
      refine q_callVN (As := [.int v2, .int 2]) (rest := [.int x4]) (st1 := [.int x6, .int x4]) (c_X5_part G e) B hw hz hc0 (k_X5_part e) (by decide) (ci := 5) rfl rfl my_X5_part mv_X5_part tw_3_218 ⟨Nat.le_of_ble_eq_true rfl, Nat.le_of_ble_eq_true rfl⟩ ⟨Nat.zero_le _, Nat.zero_le _⟩ rfl hl.1 rfl rfl (Nat.le_of_ble_eq_true rfl) dX11_fittingTalents_96 (fun H locs hw => ?_)
      refine lv_isub hx hb dX11_fittingTalents_99 ?_
      refine lv_iload_n hx hb dX11_fittingTalents_100 rfl (lv_at hl 3 rfl) ?_
      refine lv_icmp_ne (tgt := 113) hx hb dX11_fittingTalents_101 (by decide) (fun c7 => ?_) (fun c7 => ?_)
      · have hf := (if_neg c7).symm.trans hf
        exact w_X11_fittingTalents_113 G B hz hc0 hr hlk hk6 h v0 v1 v2 v3 v4 v5 _ _ _ hw (lv_sub hl [0, 1, 2, 3, 4, 5] rfl) hf
      · have hf := (if_pos c7).symm.trans hf
        refine lv_iload hx hb dX11_fittingTalents_104 (lv_at hl 4 rfl) ?_
        refine lv_iconst (v := 1) hx hb dX11_fittingTalents_106 (by decide) ?_
        refine lv_iload hx hb dX11_fittingTalents_107 (lv_at hl 5 rfl) ?_
        refine lv_ishl hx hb dX11_fittingTalents_109 ?_
        refine lv_ior hx hb dX11_fittingTalents_110 ?_
        obtain ⟨x8, e, hf⟩ := ob hf
        refine q_nmI e ?_
        refine lv_istore (lv' := [(4, .int x8), (0, .ref v0), (1, .ref v1), (2, .int v2), (3, .int v3), (5, .int v5), (6, .int v6)]) hx hb dX11_fittingTalents_111 hl (by decide) rfl (fun ls hl => ?_)
        exact w_X11_fittingTalents_113 G B hz hc0 hr hlk hk6 h v0 v1 v2 v3 x8 v5 _ _ _ hw (lv_sub hl [1, 2, 3, 4, 0, 5] rfl) hf
    · have hf := (if_neg c2).symm.trans hf
      refine lv_aload_n hx hb dX11_fittingTalents_52 rfl (lv_at hl 0 rfl) ?_
      obtain ⟨a9, e, hf⟩ := ob hf
      refine q_getR e B hw fd_11_11.1 fd_11_11.2.1 fd_11_11.2.2.1 fd_11_11.2.2.2.1 fd_11_11.2.2.2.2 rfl tw_2_113 dX11_fittingTalents_53 ?_
      refine lv_aload_n hx hb dX11_fittingTalents_56 rfl (lv_at hl 0 rfl) ?_
      obtain ⟨a10, e, hf⟩ := ob hf
      refine q_getR e B hw fd_11_3.1 fd_11_3.2.1 fd_11_3.2.2.1 fd_11_3.2.2.2.1 fd_11_3.2.2.2.2 rfl tw_2_105 dX11_fittingTalents_57 ?_
      refine lv_aload_n hx hb dX11_fittingTalents_60 rfl (lv_at hl 0 rfl) ?_
      obtain ⟨a11, e, hf⟩ := ob hf
      refine q_getR e B hw fd_11_5.1 fd_11_5.2.1 fd_11_5.2.2.1 fd_11_5.2.2.2.1 fd_11_5.2.2.2.2 rfl tw_2_107 dX11_fittingTalents_61 ?_
      refine lv_iload_n hx hb dX11_fittingTalents_64 rfl (lv_at hl 2 rfl) ?_
      refine lv_aload_n hx hb dX11_fittingTalents_65 rfl (lv_at hl 1 rfl) ?_
      refine lv_iload hx hb dX11_fittingTalents_66 (lv_at hl 6 rfl) ?_
      obtain ⟨x12, e, hf⟩ := ob hf
      refine q_callVN (As := [.int v6]) (rest := [.int v2, .ref a11, .ref a10, .ref a9]) (st1 := [.long x12, .int v2, .ref a11, .ref a10, .ref a9]) (c_X9_number G e) B hw hz hc0 (k_X9_number e) (by decide) (ci := 9) rfl rfl my_X9_number mv_X9_number tw_5_158 ⟨Nat.le_of_ble_eq_true rfl, Nat.le_of_ble_eq_true rfl⟩ ⟨Nat.zero_le _, Nat.zero_le _⟩ rfl hl.1 rfl rfl (Nat.le_of_ble_eq_true rfl) dX11_fittingTalents_68 (fun H locs hw => ?_)
      obtain ⟨⟨x13, h14⟩, e, hf⟩ := ob hf
      refine q_callVN (As := [.ref a10, .ref a11, .int v2, .long x12]) (rest := []) (st1 := [.int x13]) (c_X2_lives G e) B hw hz hc0 (k_X2_lives e) (by decide) (ci := 2) rfl rfl my_X2_lives mv_X2_lives tw_4_34 ⟨Nat.le_of_ble_eq_true rfl, Nat.le_of_ble_eq_true rfl⟩ ⟨Nat.zero_le _, Nat.zero_le _⟩ rfl hl.1 rfl rfl (Nat.le_of_ble_eq_true rfl) dX11_fittingTalents_71 (fun H locs hw => ?_)
      refine lv_pop hx hb dX11_fittingTalents_74 rfl ?_
      obtain ⟨x15, e, hf⟩ := ob hf
      refine lv_iinc (v := x15) (lv' := [(6, .int x15), (0, .ref v0), (1, .ref v1), (2, .int v2), (3, .int v3), (4, .int v4), (5, .int v5)]) hx hb dX11_fittingTalents_75 hl (k := 6) rfl (Option.some.inj e) (by decide) rfl (fun ls hl => ?_)
      refine lv_goto (tgt := 43) hx hb dX11_fittingTalents_78 (by decide) ?_
      exact ih h14 v0 v1 v2 v3 v4 v5 x15 _ _ _ hw (lv_sub hl [1, 2, 3, 4, 5, 6, 0] rfl) hf
set_option maxHeartbeats 4000000 in
theorem w_X11_fittingTalents_6 {p : Program} {l : Launch} {e : Env} {s : State} {m : MethodId} {args : Array Value} {below : List Frame} {meth : Method} {c : Code} {s0 : State} {E : Ev} {z : Sh} {n : Nat} {r : Int32} {h' : Hp} (G : Gl s0 E) (B : Bd p s0 s E m c cX11_fittingTalents 7 RX11) (hz : s0.heap.size ≤ z.sz) (hc0 : s.heap.size + 0 = z.sz) (hr : meth.sig.returnType = (some .int)) (hlk : meth.locks = false) : ∀ (i : Nat), ∀ (h : Hp) (v0 : Nat) (v1 : Nat) (v2 : Int32) (v3 : Int32) (v4 : Int32) (v5 : Int32) (H : Heap) (locs : List Loc) (ls : Array Slot), Pw s0 s E z h H locs → lv_has ls 7 [(0, .ref v0), (1, .ref v1), (2, .int v2), (3, .int v3), (4, .int v4), (5, .int v5)] → f_X11_fittingTalents_6 n z i h v0 v1 v2 v3 v4 v5 = some (r, h') → W p l e (rmO 5 121) s m args below meth c H locs 0 0 (Zt below s0 E z h' (some (.int r)) args s 0 0) (F0 m 6 ls []) := by
  have hx := B.1
  have hb := B.2.1
  intro i
  induction i with
  | zero =>
    intro h v0 v1 v2 v3 v4 v5 H locs ls hw hl hf
    have hf := (f_X11_fittingTalents_6.eq_1 ..).symm.trans hf
    cases hf
  | succ i ih =>
    intro h v0 v1 v2 v3 v4 v5 H locs ls hw hl hf
    have hf := (f_X11_fittingTalents_6.eq_2 ..).symm.trans hf
    refine lv_aload_n hx hb dX11_fittingTalents_6 rfl (lv_at hl 1 rfl) ?_
    refine lv_ifnull hx hb dX11_fittingTalents_7 ?_
    refine lv_iload hx hb dX11_fittingTalents_10 (lv_at hl 5 rfl) ?_
    refine lv_bipush (v := 10) hx hb dX11_fittingTalents_12 (by decide) ?_
    refine lv_icmp_ge (tgt := 119) hx hb dX11_fittingTalents_14 (by decide) (fun c1 => ?_) (fun c1 => ?_)
    · have hf := (if_pos c1).symm.trans hf
      refine lv_iload hx hb dX11_fittingTalents_119 (lv_at hl 4 rfl) ?_
      obtain ⟨rfl, rfl⟩ := so2 hf
      exact q_iret B hw hz hc0 hr hlk dX11_fittingTalents_121
    · have hf := (if_neg c1).symm.trans hf
      refine lv_aload_n hx hb dX11_fittingTalents_17 rfl (lv_at hl 0 rfl) ?_
      obtain ⟨a2, e, hf⟩ := ob hf
      refine q_getR e B hw fd_11_5.1 fd_11_5.2.1 fd_11_5.2.2.1 fd_11_5.2.2.2.1 fd_11_5.2.2.2.2 rfl tw_2_107 dX11_fittingTalents_18 ?_
      refine lv_aload_n hx hb dX11_fittingTalents_21 rfl (lv_at hl 0 rfl) ?_
      obtain ⟨a3, e, hf⟩ := ob hf
      refine q_getR e B hw fd_11_4.1 fd_11_4.2.1 fd_11_4.2.2.1 fd_11_4.2.2.2.1 fd_11_4.2.2.2.2 rfl tw_2_106 dX11_fittingTalents_22 ?_
      obtain ⟨h4, e, hf⟩ := ob hf
      refine q_callVN (As := [.ref a3]) (rest := []) (st1 := []) (c_X5_copy G e) B hw hz hc0 (k_X5_copy e) (by decide) (ci := 5) rfl rfl my_X5_copy mv_X5_copy tw_4_29 ⟨Nat.le_of_ble_eq_true rfl, Nat.le_of_ble_eq_true rfl⟩ ⟨Nat.zero_le _, Nat.zero_le _⟩ rfl hl.1 rfl rfl (Nat.le_of_ble_eq_true rfl) dX11_fittingTalents_25 (fun H locs hw => ?_)
      refine lv_aload_n hx hb dX11_fittingTalents_28 rfl (lv_at hl 0 rfl) ?_
      obtain ⟨a5, e, hf⟩ := ob hf
      refine q_getR e B hw fd_11_5.1 fd_11_5.2.1 fd_11_5.2.2.1 fd_11_5.2.2.2.1 fd_11_5.2.2.2.2 rfl tw_2_107 dX11_fittingTalents_29 ?_
      refine lv_iload_n hx hb dX11_fittingTalents_32 rfl (lv_at hl 2 rfl) ?_
      refine lv_bipush (v := 6) hx hb dX11_fittingTalents_33 (by decide) ?_
      refine lv_iload hx hb dX11_fittingTalents_35 (lv_at hl 5 rfl) ?_
      obtain ⟨h6, e, hf⟩ := ob hf
      refine q_callVN (As := [.int v2, .int 6, .int v5]) (rest := []) (st1 := []) (c_X5_put G e) B hw hz hc0 (k_X5_put e) (by decide) (ci := 5) rfl rfl my_X5_put mv_X5_put tw_4_79 ⟨Nat.le_of_ble_eq_true rfl, Nat.le_of_ble_eq_true rfl⟩ ⟨Nat.zero_le _, Nat.zero_le _⟩ rfl hl.1 rfl rfl (Nat.le_of_ble_eq_true rfl) dX11_fittingTalents_37 (fun H locs hw => ?_)
      refine lv_iconst (v := 0) hx hb dX11_fittingTalents_40 (by decide) ?_
      refine lv_istore (lv' := [(6, .int 0), (0, .ref v0), (1, .ref v1), (2, .int v2), (3, .int v3), (4, .int v4), (5, .int v5)]) hx hb dX11_fittingTalents_41 hl (by decide) rfl (fun ls hl => ?_)
      exact w_X11_fittingTalents_43 G B hz hc0 hr hlk ih n h6 v0 v1 v2 v3 v4 v5 0 _ _ _ hw (lv_sub hl [1, 2, 3, 4, 5, 6, 0] rfl) hf
set_option maxHeartbeats 4000000 in
theorem c_X11_fittingTalents {l : Launch} {s0 : State} {E : Ev} (G : Gl s0 E) {n : Nat} {z : Sh} {h : Hp} {v0 : Nat} {v1 : Nat} {v2 : Int32} {v3 : Int32} {r : Int32} {h' : Hp} (hf : f_X11_fittingTalents n z h v0 v1 v2 v3 = some (r, h')) : Ct l s0 E yX11_fittingTalents cX11_fittingTalents 7 (some .int) 5 121 [.ref v0, .ref v1, .int v2, .int v3] z h h' (some (.int r)) := by
  refine Ct.of G (by decide) (Nat.le_of_ble_eq_true rfl) ?_
  intro p e s m below meth c ls B hw hz hc0 hr hlk hl
  have B : Bd p s0 s E m c cX11_fittingTalents 7 RX11 := B
  have hx := B.1
  have hb := B.2.1
  have hl : lv_has ls 7 [(0, .ref v0), (1, .ref v1), (2, .int v2), (3, .int v3)] := hl
  unfold f_X11_fittingTalents at hf
  obtain ⟨_, hf⟩ := if_some hf
  refine lv_iconst (v := 0) hx hb dX11_fittingTalents_0 (by decide) ?_
  refine lv_istore (lv' := [(4, .int 0), (0, .ref v0), (1, .ref v1), (2, .int v2), (3, .int v3)]) hx hb dX11_fittingTalents_1 hl (by decide) rfl (fun ls hl => ?_)
  refine lv_iconst (v := 0) hx hb dX11_fittingTalents_3 (by decide) ?_
  refine lv_istore (lv' := [(5, .int 0), (4, .int 0), (0, .ref v0), (1, .ref v1), (2, .int v2), (3, .int v3)]) hx hb dX11_fittingTalents_4 hl (by decide) rfl (fun ls hl => ?_)
  exact w_X11_fittingTalents_6 G B hz hc0 hr hlk  n h v0 v1 v2 v3 0 0 _ _ _ hw (lv_sub hl [2, 3, 4, 5, 1, 0] rfl) hf
/-! SecondLife$Deeds.doSeason(LSecondLife$Town;LSecondLife$People;II)I -/
def f_X2_doSeason_34 (n : Nat) (z : Sh) (k11 : Hp → Nat → Nat → Nat → Int32 → Int32 → Int32 → Option (Int32 × Hp)) (h : Hp) (v0 : Nat) (v1 : Nat) (v2 : Nat) (v4 : Int32) (v6 : Int32) (u0 : Int32) (u1 : Int32) : Option (Int32 × Hp) :=
  (some (u1 + u0)).bind fun x1 =>
  (some (v6 + 1)).bind fun x2 =>
  k11 h v0 v1 v2 v4 x1 x2
def f_X2_doSeason_11 (n : Nat) (z : Sh) : Nat → Hp → Nat → Nat → Nat → Int32 → Int32 → Int32 → Option (Int32 × Hp)
  | 0, _, _, _, _, _, _, _ => none
  | i + 1, h, v0, v1, v2, v4, v5, v6 =>
    if v4 ≤ v6 then
      some (v5, h)
    else
      (f_X2_doDrawn n z h v0 v1 v2).bind fun (x2, h3) =>
      if x2 = 0 then
        f_X2_doSeason_34 n z (f_X2_doSeason_11 n z i) h3 v0 v1 v2 v4 v6 1 v5
      else
        f_X2_doSeason_34 n z (f_X2_doSeason_11 n z i) h3 v0 v1 v2 v4 v6 0 v5
def f_X2_doSeason (n : Nat) (z : Sh) (h : Hp) (v0 : Nat) (v1 : Nat) (v2 : Nat) (v3 : Int32) (v4 : Int32) : Option (Int32 × Hp) :=
  if z.K v0 = 2 then
    (pI z h 2 v0 2 v3).bind fun h1 =>
    f_X2_doSeason_11 n z n h1 v0 v1 v2 v4 0 0
  else none
theorem k_X2_doSeason {n : Nat} {z : Sh} {h : Hp} {v0 : Nat} {v1 : Nat} {v2 : Nat} {v3 : Int32} {v4 : Int32} {w : Int32 × Hp} (hf : f_X2_doSeason n z h v0 v1 v2 v3 v4 = some w) : z.K v0 = 2 := by
  unfold f_X2_doSeason at hf
  exact (if_some hf).1
set_option maxHeartbeats 4000000 in
theorem w_X2_doSeason_34 {p : Program} {l : Launch} {e : Env} {s : State} {m : MethodId} {args : Array Value} {below : List Frame} {meth : Method} {c : Code} {s0 : State} {E : Ev} {z : Sh} {n : Nat} {k11 : Hp → Nat → Nat → Nat → Int32 → Int32 → Int32 → Option (Int32 × Hp)} {r : Int32} {h' : Hp} (G : Gl s0 E) (B : Bd p s0 s E m c cX2_doSeason 7 RX2) (hz : s0.heap.size ≤ z.sz) (hc0 : s.heap.size + 0 = z.sz) (hr : meth.sig.returnType = (some .int)) (hlk : meth.locks = false) (hk11 : ∀ (h : Hp) (v0 : Nat) (v1 : Nat) (v2 : Nat) (v4 : Int32) (v5 : Int32) (v6 : Int32) (H : Heap) (locs : List Loc) (ls : Array Slot), Pw s0 s E z h H locs → lv_has ls 7 [(0, .ref v0), (1, .ref v1), (2, .ref v2), (4, .int v4), (5, .int v5), (6, .int v6)] → k11 h v0 v1 v2 v4 v5 v6 = some (r, h') → W p l e (rmO 6 145) s m args below meth c H locs 0 0 (Zt below s0 E z h' (some (.int r)) args s 0 0) (F0 m 11 ls [])) : ∀ (h : Hp) (v0 : Nat) (v1 : Nat) (v2 : Nat) (v4 : Int32) (v6 : Int32) (u0 : Int32) (u1 : Int32) (H : Heap) (locs : List Loc) (ls : Array Slot), Pw s0 s E z h H locs → lv_has ls 7 [(0, .ref v0), (1, .ref v1), (2, .ref v2), (4, .int v4), (6, .int v6)] → f_X2_doSeason_34 n z k11 h v0 v1 v2 v4 v6 u0 u1 = some (r, h') → W p l e (rmO 6 145) s m args below meth c H locs 0 0 (Zt below s0 E z h' (some (.int r)) args s 0 0) (F0 m 34 ls [.int u0, .int u1]) := by
  have hx := B.1
  have hb := B.2.1
  intro h v0 v1 v2 v4 v6 u0 u1 H locs ls hw hl hf
  unfold f_X2_doSeason_34 at hf
  refine lv_iadd hx hb dX2_doSeason_34 ?_
  obtain ⟨x1, e, hf⟩ := ob hf
  refine q_nmI e ?_
  refine lv_istore (lv' := [(5, .int x1), (0, .ref v0), (1, .ref v1), (2, .ref v2), (4, .int v4), (6, .int v6)]) hx hb dX2_doSeason_35 hl (by decide) rfl (fun ls hl => ?_)
  obtain ⟨x2, e, hf⟩ := ob hf
  refine lv_iinc (v := x2) (lv' := [(6, .int x2), (5, .int x1), (0, .ref v0), (1, .ref v1), (2, .ref v2), (4, .int v4)]) hx hb dX2_doSeason_37 hl (k := 5) rfl (Option.some.inj e) (by decide) rfl (fun ls hl => ?_)
  refine lv_goto (tgt := 11) hx hb dX2_doSeason_40 (by decide) ?_
  exact hk11 h v0 v1 v2 v4 x1 x2 _ _ _ hw (lv_sub hl [2, 3, 4, 5, 1, 0] rfl) hf
set_option maxHeartbeats 4000000 in
theorem w_X2_doSeason_11 {p : Program} {l : Launch} {e : Env} {s : State} {m : MethodId} {args : Array Value} {below : List Frame} {meth : Method} {c : Code} {s0 : State} {E : Ev} {z : Sh} {n : Nat} {r : Int32} {h' : Hp} (G : Gl s0 E) (B : Bd p s0 s E m c cX2_doSeason 7 RX2) (hz : s0.heap.size ≤ z.sz) (hc0 : s.heap.size + 0 = z.sz) (hr : meth.sig.returnType = (some .int)) (hlk : meth.locks = false) : ∀ (i : Nat), ∀ (h : Hp) (v0 : Nat) (v1 : Nat) (v2 : Nat) (v4 : Int32) (v5 : Int32) (v6 : Int32) (H : Heap) (locs : List Loc) (ls : Array Slot), Pw s0 s E z h H locs → lv_has ls 7 [(0, .ref v0), (1, .ref v1), (2, .ref v2), (4, .int v4), (5, .int v5), (6, .int v6)] → f_X2_doSeason_11 n z i h v0 v1 v2 v4 v5 v6 = some (r, h') → W p l e (rmO 6 145) s m args below meth c H locs 0 0 (Zt below s0 E z h' (some (.int r)) args s 0 0) (F0 m 11 ls []) := by
  have hx := B.1
  have hb := B.2.1
  intro i
  induction i with
  | zero =>
    intro h v0 v1 v2 v4 v5 v6 H locs ls hw hl hf
    have hf := (f_X2_doSeason_11.eq_1 ..).symm.trans hf
    cases hf
  | succ i ih =>
    intro h v0 v1 v2 v4 v5 v6 H locs ls hw hl hf
    have hf := (f_X2_doSeason_11.eq_2 ..).symm.trans hf
    refine lv_iload hx hb dX2_doSeason_11 (lv_at hl 5 rfl) ?_
    refine lv_iload hx hb dX2_doSeason_13 (lv_at hl 3 rfl) ?_
    refine lv_icmp_ge (tgt := 43) hx hb dX2_doSeason_15 (by decide) (fun c1 => ?_) (fun c1 => ?_)
    · have hf := (if_pos c1).symm.trans hf
      refine lv_iload hx hb dX2_doSeason_43 (lv_at hl 4 rfl) ?_
      obtain ⟨rfl, rfl⟩ := so2 hf
      exact q_iret B hw hz hc0 hr hlk dX2_doSeason_45
    · have hf := (if_neg c1).symm.trans hf
      refine lv_iload hx hb dX2_doSeason_18 (lv_at hl 4 rfl) ?_
      refine lv_aload_n hx hb dX2_doSeason_20 rfl (lv_at hl 0 rfl) ?_
      refine lv_aload_n hx hb dX2_doSeason_21 rfl (lv_at hl 1 rfl) ?_
      refine lv_aload_n hx hb dX2_doSeason_22 rfl (lv_at hl 2 rfl) ?_
      obtain ⟨⟨x2, h3⟩, e, hf⟩ := ob hf
      refine q_callV (As := [.ref v1, .ref v2]) (rest := [.int v5]) (st1 := [.int x2, .int v5]) (c_X2_doDrawn G e) B hw hz hc0 (k_X2_doDrawn e) (by decide) (ci := 2) rfl rfl my_X2_doDrawn mv_X2_doDrawn tw_4_144 ⟨Nat.le_of_ble_eq_true rfl, Nat.le_of_ble_eq_true rfl⟩ ⟨Nat.zero_le _, Nat.zero_le _⟩ rfl hl.1 rfl rfl (Nat.le_of_ble_eq_true rfl) dX2_doSeason_23 (fun H locs hw => ?_)
      refine lv_if_ne (tgt := 33) hx hb dX2_doSeason_26 (by decide) (fun c4 => ?_) (fun c4 => ?_)
      · have hf := (if_neg c4).symm.trans hf
        refine lv_iconst (v := 0) hx hb dX2_doSeason_33 (by decide) ?_
        exact w_X2_doSeason_34 G B hz hc0 hr hlk ih h3 v0 v1 v2 v4 v6 0 v5 _ _ _ hw (lv_sub hl [0, 1, 2, 3, 5] rfl) hf
      · have hf := (if_pos c4).symm.trans hf
        refine lv_iconst (v := 1) hx hb dX2_doSeason_29 (by decide) ?_
        refine lv_goto (tgt := 34) hx hb dX2_doSeason_30 (by decide) ?_
        exact w_X2_doSeason_34 G B hz hc0 hr hlk ih h3 v0 v1 v2 v4 v6 1 v5 _ _ _ hw (lv_sub hl [0, 1, 2, 3, 5] rfl) hf
set_option maxHeartbeats 4000000 in
theorem c_X2_doSeason {l : Launch} {s0 : State} {E : Ev} (G : Gl s0 E) {n : Nat} {z : Sh} {h : Hp} {v0 : Nat} {v1 : Nat} {v2 : Nat} {v3 : Int32} {v4 : Int32} {r : Int32} {h' : Hp} (hf : f_X2_doSeason n z h v0 v1 v2 v3 v4 = some (r, h')) : Ct l s0 E yX2_doSeason cX2_doSeason 7 (some .int) 6 145 [.ref v0, .ref v1, .ref v2, .int v3, .int v4] z h h' (some (.int r)) := by
  refine Ct.of G (by decide) (Nat.le_of_ble_eq_true rfl) ?_
  intro p e s m below meth c ls B hw hz hc0 hr hlk hl
  have B : Bd p s0 s E m c cX2_doSeason 7 RX2 := B
  have hx := B.1
  have hb := B.2.1
  have hl : lv_has ls 7 [(0, .ref v0), (1, .ref v1), (2, .ref v2), (3, .int v3), (4, .int v4)] := hl
  unfold f_X2_doSeason at hf
  obtain ⟨_, hf⟩ := if_some hf
  refine lv_aload_n hx hb dX2_doSeason_0 rfl (lv_at hl 0 rfl) ?_
  refine lv_iload_n hx hb dX2_doSeason_1 rfl (lv_at hl 3 rfl) ?_
  obtain ⟨h1, e, hf⟩ := ob hf
  refine q_putI e B hw fd_2_2.1 fd_2_2.2.1 fd_2_2.2.2.1 fd_2_2.2.2.2.1 fd_2_2.2.2.2.2 rfl rfl (tyX2_ok 2 (by decide)) tyX2 tyX2_ok nmX2 tw_1_209 dX2_doSeason_2 (fun H locs hw => ?_)
  refine lv_iconst (v := 0) hx hb dX2_doSeason_5 (by decide) ?_
  refine lv_istore (lv' := [(5, .int 0), (0, .ref v0), (1, .ref v1), (2, .ref v2), (3, .int v3), (4, .int v4)]) hx hb dX2_doSeason_6 hl (by decide) rfl (fun ls hl => ?_)
  refine lv_iconst (v := 0) hx hb dX2_doSeason_8 (by decide) ?_
  refine lv_istore (lv' := [(6, .int 0), (5, .int 0), (0, .ref v0), (1, .ref v1), (2, .ref v2), (3, .int v3), (4, .int v4)]) hx hb dX2_doSeason_9 hl (by decide) rfl (fun ls hl => ?_)
  exact w_X2_doSeason_11 G B hz hc0 hr hlk  n h1 v0 v1 v2 v4 0 0 _ _ _ hw (lv_sub hl [2, 3, 4, 6, 1, 0] rfl) hf
/-! SecondLife$Reader.deeper(I)Z -/
def f_X6_deeper (n : Nat) (z : Sh) (h : Hp) (v0 : Nat) (v1 : Int32) : Option (Int32 × Hp) :=
  if z.K v0 = 6 then
    if v1 < 6 then
      (f_X6_next n z h v0).bind fun h2 =>
      some (1, h2)
    else
      (f_X6_wrong z h v0 4).bind fun (x3, h4) =>
      (bz x3).bind fun x5 =>
      some (x5, h4)
  else none
theorem k_X6_deeper {n : Nat} {z : Sh} {h : Hp} {v0 : Nat} {v1 : Int32} {w : Int32 × Hp} (hf : f_X6_deeper n z h v0 v1 = some w) : z.K v0 = 6 := by
  unfold f_X6_deeper at hf
  exact (if_some hf).1
set_option maxHeartbeats 4000000 in
theorem c_X6_deeper {l : Launch} {s0 : State} {E : Ev} (G : Gl s0 E) {n : Nat} {z : Sh} {h : Hp} {v0 : Nat} {v1 : Int32} {r : Int32} {h' : Hp} (hf : f_X6_deeper n z h v0 v1 = some (r, h')) : Ct l s0 E yX6_deeper cX6_deeper 2 (some .boolean) 5 108 [.ref v0, .int v1] z h h' (some (.int r)) := by
  refine Ct.of G (by decide) (Nat.le_of_ble_eq_true rfl) ?_
  intro p e s m below meth c ls B hw hz hc0 hr hlk hl
  have B : Bd p s0 s E m c cX6_deeper 2 RX6 := B
  have hx := B.1
  have hb := B.2.1
  have hl : lv_has ls 2 [(0, .ref v0), (1, .int v1)] := hl
  unfold f_X6_deeper at hf
  obtain ⟨_, hf⟩ := if_some hf
  refine lv_iload_n hx hb dX6_deeper_0 rfl (lv_at hl 1 rfl) ?_
  refine lv_bipush (v := 6) hx hb dX6_deeper_1 (by decide) ?_
  refine lv_icmp_lt (tgt := 12) hx hb dX6_deeper_3 (by decide) (fun c1 => ?_) (fun c1 => ?_)
  · have hf := (if_pos c1).symm.trans hf
    refine lv_aload_n hx hb dX6_deeper_12 rfl (lv_at hl 0 rfl) ?_
    obtain ⟨h2, e, hf⟩ := ob hf
    refine q_callV (As := []) (rest := []) (st1 := []) (c_X6_next G e) B hw hz hc0 (k_X6_next e) (by decide) (ci := 6) rfl rfl my_X6_next mv_X6_next tw_2_171 ⟨Nat.le_of_ble_eq_true rfl, Nat.le_of_ble_eq_true rfl⟩ ⟨Nat.zero_le _, Nat.zero_le _⟩ rfl hl.1 rfl rfl (Nat.le_of_ble_eq_true rfl) dX6_deeper_13 (fun H locs hw => ?_)
    refine lv_iconst (v := 1) hx hb dX6_deeper_16 (by decide) ?_
    obtain ⟨rfl, rfl⟩ := so2 hf
    exact q_zret (Or.inr rfl) B hw hz hc0 hr hlk dX6_deeper_17
  · have hf := (if_neg c1).symm.trans hf
    refine lv_aload_n hx hb dX6_deeper_6 rfl (lv_at hl 0 rfl) ?_
    refine lv_iconst (v := 4) hx hb dX6_deeper_7 (by decide) ?_
    obtain ⟨⟨x3, h4⟩, e, hf⟩ := ob hf
    refine q_callV (As := [.int 4]) (rest := []) (st1 := [.int x3]) (c_X6_wrong G e) B hw hz hc0 (k_X6_wrong e) (by decide) (ci := 6) rfl rfl my_X6_wrong mv_X6_wrong tw_3_71 ⟨Nat.le_of_ble_eq_true rfl, Nat.le_of_ble_eq_true rfl⟩ ⟨Nat.zero_le _, Nat.zero_le _⟩ rfl hl.1 rfl rfl (Nat.le_of_ble_eq_true rfl) dX6_deeper_8 (fun H locs hw => ?_)
    obtain ⟨x5, e, hf⟩ := ob hf
    obtain ⟨e1, e⟩ := if_some e
    cases e
    obtain ⟨rfl, rfl⟩ := so2 hf
    exact q_zret e1 B hw hz hc0 hr hlk dX6_deeper_11
/-! SecondLife$Reader.take(Ljava/lang/String;)Z -/
def f_X6_take (n : Nat) (z : Sh) (h : Hp) (v0 : Nat) (v1 : Nat) : Option (Int32 × Hp) :=
  if z.K v0 = 6 then
    (f_X6_is n z h v0 v1).bind fun x1 =>
    if x1 = 0 then
      (f_X6_wrong z h v0 2).bind fun (x4, h5) =>
      (bz x4).bind fun x6 =>
      some (x6, h5)
    else
      (f_X6_next n z h v0).bind fun h3 =>
      some (1, h3)
  else none
theorem k_X6_take {n : Nat} {z : Sh} {h : Hp} {v0 : Nat} {v1 : Nat} {w : Int32 × Hp} (hf : f_X6_take n z h v0 v1 = some w) : z.K v0 = 6 := by
  unfold f_X6_take at hf
  exact (if_some hf).1
set_option maxHeartbeats 4000000 in
theorem c_X6_take {l : Launch} {s0 : State} {E : Ev} (G : Gl s0 E) {n : Nat} {z : Sh} {h : Hp} {v0 : Nat} {v1 : Nat} {r : Int32} {h' : Hp} (hf : f_X6_take n z h v0 v1 = some (r, h')) : Ct l s0 E yX6_take cX6_take 2 (some .boolean) 5 108 [.ref v0, .ref v1] z h h' (some (.int r)) := by
  refine Ct.of G (by decide) (Nat.le_of_ble_eq_true rfl) ?_
  intro p e s m below meth c ls B hw hz hc0 hr hlk hl
  have B : Bd p s0 s E m c cX6_take 2 RX6 := B
  have hx := B.1
  have hb := B.2.1
  have hl : lv_has ls 2 [(0, .ref v0), (1, .ref v1)] := hl
  unfold f_X6_take at hf
  obtain ⟨_, hf⟩ := if_some hf
  refine lv_aload_n hx hb dX6_take_0 rfl (lv_at hl 0 rfl) ?_
  refine lv_aload_n hx hb dX6_take_1 rfl (lv_at hl 1 rfl) ?_
  obtain ⟨x1, e, hf⟩ := ob hf
  refine q_callV (As := [.ref v1]) (rest := []) (st1 := [.int x1]) (c_X6_is G e) B hw hz hc0 (k_X6_is e) (by decide) (ci := 6) rfl rfl my_X6_is mv_X6_is tw_3_46 ⟨Nat.le_of_ble_eq_true rfl, Nat.le_of_ble_eq_true rfl⟩ ⟨Nat.zero_le _, Nat.zero_le _⟩ rfl hl.1 rfl rfl (Nat.le_of_ble_eq_true rfl) dX6_take_2 (fun H locs hw => ?_)
  refine lv_if_ne (tgt := 14) hx hb dX6_take_5 (by decide) (fun c2 => ?_) (fun c2 => ?_)
  · have hf := (if_neg c2).symm.trans hf
    refine lv_aload_n hx hb dX6_take_14 rfl (lv_at hl 0 rfl) ?_
    obtain ⟨h3, e, hf⟩ := ob hf
    refine q_callV (As := []) (rest := []) (st1 := []) (c_X6_next G e) B hw hz hc0 (k_X6_next e) (by decide) (ci := 6) rfl rfl my_X6_next mv_X6_next tw_2_171 ⟨Nat.le_of_ble_eq_true rfl, Nat.le_of_ble_eq_true rfl⟩ ⟨Nat.zero_le _, Nat.zero_le _⟩ rfl hl.1 rfl rfl (Nat.le_of_ble_eq_true rfl) dX6_take_15 (fun H locs hw => ?_)
    refine lv_iconst (v := 1) hx hb dX6_take_18 (by decide) ?_
    obtain ⟨rfl, rfl⟩ := so2 hf
    exact q_zret (Or.inr rfl) B hw hz hc0 hr hlk dX6_take_19
  · have hf := (if_pos c2).symm.trans hf
    refine lv_aload_n hx hb dX6_take_8 rfl (lv_at hl 0 rfl) ?_
    refine lv_iconst (v := 2) hx hb dX6_take_9 (by decide) ?_
    obtain ⟨⟨x4, h5⟩, e, hf⟩ := ob hf
    refine q_callV (As := [.int 2]) (rest := []) (st1 := [.int x4]) (c_X6_wrong G e) B hw hz hc0 (k_X6_wrong e) (by decide) (ci := 6) rfl rfl my_X6_wrong mv_X6_wrong tw_3_71 ⟨Nat.le_of_ble_eq_true rfl, Nat.le_of_ble_eq_true rfl⟩ ⟨Nat.zero_le _, Nat.zero_le _⟩ rfl hl.1 rfl rfl (Nat.le_of_ble_eq_true rfl) dX6_take_10 (fun H locs hw => ?_)
    obtain ⟨x6, e, hf⟩ := ob hf
    obtain ⟨e1, e⟩ := if_some e
    cases e
    obtain ⟨rfl, rfl⟩ := so2 hf
    exact q_zret e1 B hw hz hc0 hr hlk dX6_take_13
/-! SecondLife$Reader.takeNumber(II)I -/
def f_X6_takeNumber_31 (n : Nat) (z : Sh) (h : Hp) (v0 : Nat) : Option (Int32 × Hp) :=
  (f_X6_wrong z h v0 3).bind fun (x1, h2) =>
  some ((0 : Int32), h2)
def f_X6_takeNumber (n : Nat) (z : Sh) (h : Hp) (v0 : Nat) (v1 : Int32) (v2 : Int32) : Option (Int32 × Hp) :=
  if z.K v0 = 6 then
    (gI z h 6 v0 6).bind fun x1 =>
    if x1 = 1 then
      (gI z h 6 v0 7).bind fun x3 =>
      if x3 < v1 then
        f_X6_takeNumber_31 n z h v0
      else
        if x3 ≤ v2 then
          (f_X6_next n z h v0).bind fun h6 =>
          some (x3, h6)
        else
          f_X6_takeNumber_31 n z h v0
    else
      (f_X6_wrong z h v0 2).bind fun (x7, h8) =>
      some ((0 : Int32), h8)
  else none
theorem k_X6_takeNumber {n : Nat} {z : Sh} {h : Hp} {v0 : Nat} {v1 : Int32} {v2 : Int32} {w : Int32 × Hp} (hf : f_X6_takeNumber n z h v0 v1 v2 = some w) : z.K v0 = 6 := by
  unfold f_X6_takeNumber at hf
  exact (if_some hf).1
set_option maxHeartbeats 4000000 in
theorem w_X6_takeNumber_31 {p : Program} {l : Launch} {e : Env} {s : State} {m : MethodId} {args : Array Value} {below : List Frame} {meth : Method} {c : Code} {s0 : State} {E : Ev} {z : Sh} {n : Nat} {r : Int32} {h' : Hp} (G : Gl s0 E) (B : Bd p s0 s E m c cX6_takeNumber 4 RX6) (hz : s0.heap.size ≤ z.sz) (hc0 : s.heap.size + 0 = z.sz) (hr : meth.sig.returnType = (some .int)) (hlk : meth.locks = false) : ∀ (h : Hp) (v0 : Nat) (H : Heap) (locs : List Loc) (ls : Array Slot), Pw s0 s E z h H locs → lv_has ls 4 [(0, .ref v0)] → f_X6_takeNumber_31 n z h v0 = some (r, h') → W p l e (rmO 5 108) s m args below meth c H locs 0 0 (Zt below s0 E z h' (some (.int r)) args s 0 0) (F0 m 31 ls []) := by
  have hx := B.1
  have hb := B.2.1
  intro h v0 H locs ls hw hl hf
  unfold f_X6_takeNumber_31 at hf
  refine lv_aload_n hx hb dX6_takeNumber_31 rfl (lv_at hl 0 rfl) ?_
  refine lv_iconst (v := 3) hx hb dX6_takeNumber_32 (by decide) ?_
  obtain ⟨⟨x1, h2⟩, e, hf⟩ := ob hf
  refine q_callV (As := [.int 3]) (rest := []) (st1 := [.int x1]) (c_X6_wrong G e) B hw hz hc0 (k_X6_wrong e) (by decide) (ci := 6) rfl rfl my_X6_wrong mv_X6_wrong tw_3_71 ⟨Nat.le_of_ble_eq_true rfl, Nat.le_of_ble_eq_true rfl⟩ ⟨Nat.zero_le _, Nat.zero_le _⟩ rfl hl.1 rfl rfl (Nat.le_of_ble_eq_true rfl) dX6_takeNumber_33 (fun H locs hw => ?_)
  refine lv_pop hx hb dX6_takeNumber_36 rfl ?_
  refine lv_iconst (v := 0) hx hb dX6_takeNumber_37 (by decide) ?_
  obtain ⟨rfl, rfl⟩ := so2 hf
  exact q_iret B hw hz hc0 hr hlk dX6_takeNumber_38
set_option maxHeartbeats 4000000 in
theorem c_X6_takeNumber {l : Launch} {s0 : State} {E : Ev} (G : Gl s0 E) {n : Nat} {z : Sh} {h : Hp} {v0 : Nat} {v1 : Int32} {v2 : Int32} {r : Int32} {h' : Hp} (hf : f_X6_takeNumber n z h v0 v1 v2 = some (r, h')) : Ct l s0 E yX6_takeNumber cX6_takeNumber 4 (some .int) 5 108 [.ref v0, .int v1, .int v2] z h h' (some (.int r)) := by
  refine Ct.of G (by decide) (Nat.le_of_ble_eq_true rfl) ?_
  intro p e s m below meth c ls B hw hz hc0 hr hlk hl
  have B : Bd p s0 s E m c cX6_takeNumber 4 RX6 := B
  have hx := B.1
  have hb := B.2.1
  have hl : lv_has ls 4 [(0, .ref v0), (1, .int v1), (2, .int v2)] := hl
  unfold f_X6_takeNumber at hf
  obtain ⟨_, hf⟩ := if_some hf
  refine lv_aload_n hx hb dX6_takeNumber_0 rfl (lv_at hl 0 rfl) ?_
  obtain ⟨x1, e, hf⟩ := ob hf
  refine q_getI e B hw fd_6_6.1 fd_6_6.2.1 fd_6_6.2.2.1 fd_6_6.2.2.2.1 fd_6_6.2.2.2.2 rfl tw_1_111 dX6_takeNumber_1 ?_
  refine lv_iconst (v := 1) hx hb dX6_takeNumber_4 (by decide) ?_
  refine lv_icmp_eq (tgt := 16) hx hb dX6_takeNumber_5 (by decide) (fun c2 => ?_) (fun c2 => ?_)
  · have hf := (if_pos c2).symm.trans hf
    refine lv_aload_n hx hb dX6_takeNumber_16 rfl (lv_at hl 0 rfl) ?_
    obtain ⟨x3, e, hf⟩ := ob hf
    refine q_getI e B hw fd_6_7.1 fd_6_7.2.1 fd_6_7.2.2.1 fd_6_7.2.2.2.1 fd_6_7.2.2.2.2 rfl tw_1_112 dX6_takeNumber_17 ?_
    refine lv_istore_n (lv' := [(3, .int x3), (0, .ref v0), (1, .int v1), (2, .int v2)]) hx hb dX6_takeNumber_20 rfl hl (by decide) rfl (fun ls hl => ?_)
    refine lv_iload_n hx hb dX6_takeNumber_21 rfl (lv_at hl 0 rfl) ?_
    refine lv_iload_n hx hb dX6_takeNumber_22 rfl (lv_at hl 2 rfl) ?_
    refine lv_icmp_lt (tgt := 31) hx hb dX6_takeNumber_23 (by decide) (fun c4 => ?_) (fun c4 => ?_)
    · have hf := (if_pos c4).symm.trans hf
      exact w_X6_takeNumber_31 G B hz hc0 hr hlk  h v0 _ _ _ hw (lv_sub hl [1] rfl) hf
    · have hf := (if_neg c4).symm.trans hf
      refine lv_iload_n hx hb dX6_takeNumber_26 rfl (lv_at hl 0 rfl) ?_
      refine lv_iload_n hx hb dX6_takeNumber_27 rfl (lv_at hl 3 rfl) ?_
      refine lv_icmp_le (tgt := 39) hx hb dX6_takeNumber_28 (by decide) (fun c5 => ?_) (fun c5 => ?_)
      · have hf := (if_pos c5).symm.trans hf
        refine lv_aload_n hx hb dX6_takeNumber_39 rfl (lv_at hl 1 rfl) ?_
        obtain ⟨h6, e, hf⟩ := ob hf
        refine q_callV (As := []) (rest := []) (st1 := []) (c_X6_next G e) B hw hz hc0 (k_X6_next e) (by decide) (ci := 6) rfl rfl my_X6_next mv_X6_next tw_2_171 ⟨Nat.le_of_ble_eq_true rfl, Nat.le_of_ble_eq_true rfl⟩ ⟨Nat.zero_le _, Nat.zero_le _⟩ rfl hl.1 rfl rfl (Nat.le_of_ble_eq_true rfl) dX6_takeNumber_40 (fun H locs hw => ?_)
        refine lv_iload_n hx hb dX6_takeNumber_43 rfl (lv_at hl 0 rfl) ?_
        obtain ⟨rfl, rfl⟩ := so2 hf
        exact q_iret B hw hz hc0 hr hlk dX6_takeNumber_44
      · have hf := (if_neg c5).symm.trans hf
        exact w_X6_takeNumber_31 G B hz hc0 hr hlk  h v0 _ _ _ hw (lv_sub hl [1] rfl) hf
  · have hf := (if_neg c2).symm.trans hf
    refine lv_aload_n hx hb dX6_takeNumber_8 rfl (lv_at hl 0 rfl) ?_
    refine lv_iconst (v := 2) hx hb dX6_takeNumber_9 (by decide) ?_
    obtain ⟨⟨x7, h8⟩, e, hf⟩ := ob hf
    refine q_callV (As := [.int 2]) (rest := []) (st1 := [.int x7]) (c_X6_wrong G e) B hw hz hc0 (k_X6_wrong e) (by decide) (ci := 6) rfl rfl my_X6_wrong mv_X6_wrong tw_3_71 ⟨Nat.le_of_ble_eq_true rfl, Nat.le_of_ble_eq_true rfl⟩ ⟨Nat.zero_le _, Nat.zero_le _⟩ rfl hl.1 rfl rfl (Nat.le_of_ble_eq_true rfl) dX6_takeNumber_10 (fun H locs hw => ?_)
    refine lv_pop hx hb dX6_takeNumber_13 rfl ?_
    refine lv_iconst (v := 0) hx hb dX6_takeNumber_14 (by decide) ?_
    obtain ⟨rfl, rfl⟩ := so2 hf
    exact q_iret B hw hz hc0 hr hlk dX6_takeNumber_15
/-! SecondLife.season(II)I -/
def f_X11_season_11 (n : Nat) (z : Sh) (h : Hp) : Option (Int32 × Hp) :=
  (f_X11_refused z h 3).bind fun x1 =>
  some (x1, h)
def f_X11_season (n : Nat) (z : Sh) (h : Hp) (v0 : Nat) (v1 : Int32) (v2 : Int32) : Option (Int32 × Hp) :=
  if z.K v0 = 11 then
    if v2 < 1 then
      f_X11_season_11 n z h
    else
      if v2 ≤ 40 then
        (gR z h 11 v0 5).bind fun a3 =>
        (gR z h 11 v0 4).bind fun a4 =>
        (f_X5_copy z h a3 a4).bind fun h5 =>
        (gR z h5 11 v0 11).bind fun a6 =>
        (gR z h5 11 v0 3).bind fun a7 =>
        (gR z h5 11 v0 4).bind fun a8 =>
        (f_X2_doSeason n z h5 a6 a7 a8 v1 v2).bind fun (x9, h10) =>
        if x9 ≤ 0 then
          some (x9, h10)
        else
          (gR z h10 11 v0 6).bind fun a12 =>
          (gR z h10 11 v0 5).bind fun a13 =>
          (f_X4_keep z h10 a12 a13).bind fun h14 =>
          some (x9, h14)
      else
        f_X11_season_11 n z h
  else none
theorem k_X11_season {n : Nat} {z : Sh} {h : Hp} {v0 : Nat} {v1 : Int32} {v2 : Int32} {w : Int32 × Hp} (hf : f_X11_season n z h v0 v1 v2 = some w) : z.K v0 = 11 := by
  unfold f_X11_season at hf
  exact (if_some hf).1
set_option maxHeartbeats 4000000 in
theorem w_X11_season_11 {p : Program} {l : Launch} {e : Env} {s : State} {m : MethodId} {args : Array Value} {below : List Frame} {meth : Method} {c : Code} {s0 : State} {E : Ev} {z : Sh} {n : Nat} {r : Int32} {h' : Hp} (G : Gl s0 E) (B : Bd p s0 s E m c cX11_season 4 RX11) (hz : s0.heap.size ≤ z.sz) (hc0 : s.heap.size + 0 = z.sz) (hr : meth.sig.returnType = (some .int)) (hlk : meth.locks = false) : ∀ (h : Hp) (H : Heap) (locs : List Loc) (ls : Array Slot), Pw s0 s E z h H locs → lv_has ls 4 [] → f_X11_season_11 n z h = some (r, h') → W p l e (rmO 7 171) s m args below meth c H locs 0 0 (Zt below s0 E z h' (some (.int r)) args s 0 0) (F0 m 11 ls []) := by
  have hx := B.1
  have hb := B.2.1
  intro h H locs ls hw hl hf
  unfold f_X11_season_11 at hf
  refine lv_iconst (v := 3) hx hb dX11_season_11 (by decide) ?_
  obtain ⟨x1, e, hf⟩ := ob hf
  refine q_callS (As := [.int 3]) (rest := []) (st1 := [.int x1]) (c_X11_refused G e) B hw hz hc0 my_X11_refused mv_X11_refused tw_2_155 ⟨Nat.le_of_ble_eq_true rfl, Nat.le_of_ble_eq_true rfl⟩ ⟨Nat.zero_le _, Nat.zero_le _⟩ rfl hl.1 rfl rfl (Nat.le_of_ble_eq_true rfl) dX11_season_12 (fun H locs hw => ?_)
  obtain ⟨rfl, rfl⟩ := so2 hf
  exact q_iret B hw hz hc0 hr hlk dX11_season_15
set_option maxHeartbeats 4000000 in
theorem c_X11_season {l : Launch} {s0 : State} {E : Ev} (G : Gl s0 E) {n : Nat} {z : Sh} {h : Hp} {v0 : Nat} {v1 : Int32} {v2 : Int32} {r : Int32} {h' : Hp} (hf : f_X11_season n z h v0 v1 v2 = some (r, h')) : Ct l s0 E yX11_season cX11_season 4 (some .int) 7 171 [.ref v0, .int v1, .int v2] z h h' (some (.int r)) := by
  refine Ct.of G (by decide) (Nat.le_of_ble_eq_true rfl) ?_
  intro p e s m below meth c ls B hw hz hc0 hr hlk hl
  have B : Bd p s0 s E m c cX11_season 4 RX11 := B
  have hx := B.1
  have hb := B.2.1
  have hl : lv_has ls 4 [(0, .ref v0), (1, .int v1), (2, .int v2)] := hl
  unfold f_X11_season at hf
  obtain ⟨_, hf⟩ := if_some hf
  refine lv_iload_n hx hb dX11_season_0 rfl (lv_at hl 2 rfl) ?_
  refine lv_iconst (v := 1) hx hb dX11_season_1 (by decide) ?_
  refine lv_icmp_lt (tgt := 11) hx hb dX11_season_2 (by decide) (fun c1 => ?_) (fun c1 => ?_)
  · have hf := (if_pos c1).symm.trans hf
    exact w_X11_season_11 G B hz hc0 hr hlk  h _ _ _ hw (lv_sub hl [] rfl) hf
  · have hf := (if_neg c1).symm.trans hf
    refine lv_iload_n hx hb dX11_season_5 rfl (lv_at hl 2 rfl) ?_
    refine lv_bipush (v := 40) hx hb dX11_season_6 (by decide) ?_
    refine lv_icmp_le (tgt := 16) hx hb dX11_season_8 (by decide) (fun c2 => ?_) (fun c2 => ?_)
    · have hf := (if_pos c2).symm.trans hf
      refine lv_aload_n hx hb dX11_season_16 rfl (lv_at hl 0 rfl) ?_
      obtain ⟨a3, e, hf⟩ := ob hf
      refine q_getR e B hw fd_11_5.1 fd_11_5.2.1 fd_11_5.2.2.1 fd_11_5.2.2.2.1 fd_11_5.2.2.2.2 rfl tw_2_107 dX11_season_17 ?_
      refine lv_aload_n hx hb dX11_season_20 rfl (lv_at hl 0 rfl) ?_
      obtain ⟨a4, e, hf⟩ := ob hf
      refine q_getR e B hw fd_11_4.1 fd_11_4.2.1 fd_11_4.2.2.1 fd_11_4.2.2.2.1 fd_11_4.2.2.2.2 rfl tw_2_106 dX11_season_21 ?_
      obtain ⟨h5, e, hf⟩ := ob hf
      refine q_callVN (As := [.ref a4]) (rest := []) (st1 := []) (c_X5_copy G e) B hw hz hc0 (k_X5_copy e) (by decide) (ci := 5) rfl rfl my_X5_copy mv_X5_copy tw_4_29 ⟨Nat.le_of_ble_eq_true rfl, Nat.le_of_ble_eq_true rfl⟩ ⟨Nat.zero_le _, Nat.zero_le _⟩ rfl hl.1 rfl rfl (Nat.le_of_ble_eq_true rfl) dX11_season_24 (fun H locs hw => ?_)
      refine lv_aload_n hx hb dX11_season_27 rfl (lv_at hl 0 rfl) ?_
      obtain ⟨a6, e, hf⟩ := ob hf
      refine q_getR e B hw fd_11_11.1 fd_11_11.2.1 fd_11_11.2.2.1 fd_11_11.2.2.2.1 fd_11_11.2.2.2.2 rfl tw_2_113 dX11_season_28 ?_
      refine lv_aload_n hx hb dX11_season_31 rfl (lv_at hl 0 rfl) ?_
      obtain ⟨a7, e, hf⟩ := ob hf
      refine q_getR e B hw fd_11_3.1 fd_11_3.2.1 fd_11_3.2.2.1 fd_11_3.2.2.2.1 fd_11_3.2.2.2.2 rfl tw_2_105 dX11_season_32 ?_
      refine lv_aload_n hx hb dX11_season_35 rfl (lv_at hl 0 rfl) ?_
      obtain ⟨a8, e, hf⟩ := ob hf
      refine q_getR e B hw fd_11_4.1 fd_11_4.2.1 fd_11_4.2.2.1 fd_11_4.2.2.2.1 fd_11_4.2.2.2.2 rfl tw_2_106 dX11_season_36 ?_
      refine lv_iload_n hx hb dX11_season_39 rfl (lv_at hl 1 rfl) ?_
      refine lv_iload_n hx hb dX11_season_40 rfl (lv_at hl 2 rfl) ?_
      obtain ⟨⟨x9, h10⟩, e, hf⟩ := ob hf
      refine q_callVN (As := [.ref a7, .ref a8, .int v1, .int v2]) (rest := []) (st1 := [.int x9]) (c_X2_doSeason G e) B hw hz hc0 (k_X2_doSeason e) (by decide) (ci := 2) rfl rfl my_X2_doSeason mv_X2_doSeason tw_4_140 ⟨Nat.le_of_ble_eq_true rfl, Nat.le_of_ble_eq_true rfl⟩ ⟨Nat.zero_le _, Nat.zero_le _⟩ rfl hl.1 rfl rfl (Nat.le_of_ble_eq_true rfl) dX11_season_41 (fun H locs hw => ?_)
      refine lv_istore_n (lv' := [(3, .int x9), (0, .ref v0), (1, .int v1), (2, .int v2)]) hx hb dX11_season_44 rfl hl (by decide) rfl (fun ls hl => ?_)
      refine lv_iload_n hx hb dX11_season_45 rfl (lv_at hl 0 rfl) ?_
      refine lv_if_le (tgt := 60) hx hb dX11_season_46 (by decide) (fun c11 => ?_) (fun c11 => ?_)
      · have hf := (if_pos c11).symm.trans hf
        refine lv_iload_n hx hb dX11_season_60 rfl (lv_at hl 0 rfl) ?_
        obtain ⟨rfl, rfl⟩ := so2 hf
        exact q_iret B hw hz hc0 hr hlk dX11_season_61
      · have hf := (if_neg c11).symm.trans hf
        refine lv_aload_n hx hb dX11_season_49 rfl (lv_at hl 1 rfl) ?_
        obtain ⟨a12, e, hf⟩ := ob hf
        refine q_getR e B hw fd_11_6.1 fd_11_6.2.1 fd_11_6.2.2.1 fd_11_6.2.2.2.1 fd_11_6.2.2.2.2 rfl tw_2_108 dX11_season_50 ?_
        refine lv_aload_n hx hb dX11_season_53 rfl (lv_at hl 1 rfl) ?_
        obtain ⟨a13, e, hf⟩ := ob hf
        refine q_getR e B hw fd_11_5.1 fd_11_5.2.1 fd_11_5.2.2.1 fd_11_5.2.2.2.1 fd_11_5.2.2.2.2 rfl tw_2_107 dX11_season_54 ?_
        obtain ⟨h14, e, hf⟩ := ob hf
        refine q_callVN (As := [.ref a13]) (rest := []) (st1 := []) (c_X4_keep G e) B hw hz hc0 (k_X4_keep e) (by decide) (ci := 4) rfl rfl my_X4_keep mv_X4_keep tw_4_44 ⟨Nat.le_of_ble_eq_true rfl, Nat.le_of_ble_eq_true rfl⟩ ⟨Nat.zero_le _, Nat.zero_le _⟩ rfl hl.1 rfl rfl (Nat.le_of_ble_eq_true rfl) dX11_season_57 (fun H locs hw => ?_)
        refine lv_iload_n hx hb dX11_season_60 rfl (lv_at hl 0 rfl) ?_
        obtain ⟨rfl, rfl⟩ := so2 hf
        exact q_iret B hw hz hc0 hr hlk dX11_season_61
    · have hf := (if_neg c2).symm.trans hf
      exact w_X11_season_11 G B hz hc0 hr hlk  h _ _ _ hw (lv_sub hl [] rfl) hf
/-! SecondLife.talents(III)I -/
def f_X11_talents (n : Nat) (z : Sh) (h : Hp) (v0 : Nat) (v1 : Int32) (v2 : Int32) (v3 : Int32) : Option (Int32 × Hp) :=
  if z.K v0 = 11 then
    (f_X11_livedFault n z h v0 v1 v2).bind fun x1 =>
    if x1 = 0 then
      (f_X11_trayAt z h v0 v1).bind fun o3 =>
      (match o3 with
      | none =>
        none
      | some a4 =>
        (f_X11_fittingTalents n z h v0 a4 v2 v3).bind fun (x5, h6) =>
        some (x5, h6))
    else
      (f_X11_refused z h x1).bind fun x7 =>
      some (x7, h)
  else none
theorem k_X11_talents {n : Nat} {z : Sh} {h : Hp} {v0 : Nat} {v1 : Int32} {v2 : Int32} {v3 : Int32} {w : Int32 × Hp} (hf : f_X11_talents n z h v0 v1 v2 v3 = some w) : z.K v0 = 11 := by
  unfold f_X11_talents at hf
  exact (if_some hf).1
set_option maxHeartbeats 4000000 in
theorem c_X11_talents {l : Launch} {s0 : State} {E : Ev} (G : Gl s0 E) {n : Nat} {z : Sh} {h : Hp} {v0 : Nat} {v1 : Int32} {v2 : Int32} {v3 : Int32} {r : Int32} {h' : Hp} (hf : f_X11_talents n z h v0 v1 v2 v3 = some (r, h')) : Ct l s0 E yX11_talents cX11_talents 5 (some .int) 6 147 [.ref v0, .int v1, .int v2, .int v3] z h h' (some (.int r)) := by
  refine Ct.of G (by decide) (Nat.le_of_ble_eq_true rfl) ?_
  intro p e s m below meth c ls B hw hz hc0 hr hlk hl
  have B : Bd p s0 s E m c cX11_talents 5 RX11 := B
  have hx := B.1
  have hb := B.2.1
  have hl : lv_has ls 5 [(0, .ref v0), (1, .int v1), (2, .int v2), (3, .int v3)] := hl
  unfold f_X11_talents at hf
  obtain ⟨_, hf⟩ := if_some hf
  refine lv_aload_n hx hb dX11_talents_0 rfl (lv_at hl 0 rfl) ?_
  refine lv_iload_n hx hb dX11_talents_1 rfl (lv_at hl 1 rfl) ?_
  refine lv_iload_n hx hb dX11_talents_2 rfl (lv_at hl 2 rfl) ?_
  obtain ⟨x1, e, hf⟩ := ob hf
  refine q_callV (As := [.int v1, .int v2]) (rest := []) (st1 := [.int x1]) (c_X11_livedFault G e) B hw hz hc0 (k_X11_livedFault e) (by decide) (ci := 11) rfl rfl my_X11_livedFault mv_X11_livedFault tw_5_154 ⟨Nat.le_of_ble_eq_true rfl, Nat.le_of_ble_eq_true rfl⟩ ⟨Nat.zero_le _, Nat.zero_le _⟩ rfl hl.1 rfl rfl (Nat.le_of_ble_eq_true rfl) dX11_talents_3 (fun H locs hw => ?_)
  refine lv_istore (lv' := [(4, .int x1), (0, .ref v0), (1, .int v1), (2, .int v2), (3, .int v3)]) hx hb dX11_talents_6 hl (by decide) rfl (fun ls hl => ?_)
  refine lv_iload hx hb dX11_talents_8 (lv_at hl 0 rfl) ?_
  refine lv_if_eq (tgt := 21) hx hb dX11_talents_10 (by decide) (fun c2 => ?_) (fun c2 => ?_)
  · have hf := (if_pos c2).symm.trans hf
    refine lv_aload_n hx hb dX11_talents_21 rfl (lv_at hl 1 rfl) ?_
    refine lv_aload_n hx hb dX11_talents_22 rfl (lv_at hl 1 rfl) ?_
    refine lv_iload_n hx hb dX11_talents_23 rfl (lv_at hl 2 rfl) ?_
    obtain ⟨o3, e, hf⟩ := ob hf
    refine q_callV (As := [.int v1]) (rest := [.ref v0]) (st1 := [va_rf o3, .ref v0]) (c_X11_trayAt G e) B hw hz hc0 (k_X11_trayAt e) (by decide) (ci := 11) rfl rfl my_X11_trayAt mv_X11_trayAt tw_4_95 ⟨Nat.le_of_ble_eq_true rfl, Nat.le_of_ble_eq_true rfl⟩ ⟨Nat.zero_le _, Nat.zero_le _⟩ rfl hl.1 rfl rfl (Nat.le_of_ble_eq_true rfl) dX11_talents_24 (fun H locs hw => ?_)
    rcases o3 with _ | a4
    · cases hf
    · refine lv_iload_n hx hb dX11_talents_27 rfl (lv_at hl 3 rfl) ?_
      refine lv_iload_n hx hb dX11_talents_28 rfl (lv_at hl 4 rfl) ?_
      obtain ⟨⟨x5, h6⟩, e, hf⟩ := ob hf
      refine q_callV (As := [.ref a4, .int v2, .int v3]) (rest := []) (st1 := [.int x5]) (c_X11_fittingTalents G e) B hw hz hc0 (k_X11_fittingTalents e) (by decide) (ci := 11) rfl rfl my_X11_fittingTalents mv_X11_fittingTalents tw_5_159 ⟨Nat.le_of_ble_eq_true rfl, Nat.le_of_ble_eq_true rfl⟩ ⟨Nat.zero_le _, Nat.zero_le _⟩ rfl hl.1 rfl rfl (Nat.le_of_ble_eq_true rfl) dX11_talents_29 (fun H locs hw => ?_)
      obtain ⟨rfl, rfl⟩ := so2 hf
      exact q_iret B hw hz hc0 hr hlk dX11_talents_32
  · have hf := (if_neg c2).symm.trans hf
    refine lv_iload hx hb dX11_talents_13 (lv_at hl 0 rfl) ?_
    obtain ⟨x7, e, hf⟩ := ob hf
    refine q_callS (As := [.int x1]) (rest := []) (st1 := [.int x7]) (c_X11_refused G e) B hw hz hc0 my_X11_refused mv_X11_refused tw_2_155 ⟨Nat.le_of_ble_eq_true rfl, Nat.le_of_ble_eq_true rfl⟩ ⟨Nat.zero_le _, Nat.zero_le _⟩ rfl hl.1 rfl rfl (Nat.le_of_ble_eq_true rfl) dX11_talents_15 (fun H locs hw => ?_)
    refine lv_goto (tgt := 32) hx hb dX11_talents_18 (by decide) ?_
    obtain ⟨rfl, rfl⟩ := so2 hf
    exact q_iret B hw hz hc0 hr hlk dX11_talents_32
