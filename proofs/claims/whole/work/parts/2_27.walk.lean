/-! SecondLife.mostAlike(III)I -/
def f_X11_mostAlike_125 (n : Nat) (z : Sh) (k25 : Hp → Nat → Int32 → Int32 → Int32 → Int32 → Int32 → Option (Int32 × Hp)) (h : Hp) (v0 : Nat) (v1 : Int32) (v2 : Int32) (v3 : Int32) (v4 : Int32) (v5 : Int32) : Option (Int32 × Hp) :=
  (some (v5 + 1)).bind fun x1 =>
  k25 h v0 v1 v2 v3 v4 x1
def f_X11_mostAlike_25 (n : Nat) (z : Sh) : Nat → Hp → Nat → Int32 → Int32 → Int32 → Int32 → Int32 → Option (Int32 × Hp)
  | 0, _, _, _, _, _, _, _ => none
  | i + 1, h, v0, v1, v2, v3, v4, v5 =>
    if 10 ≤ v5 then
      some (v4, h)
    else
      if ((v3 >>> (v5 &&& 31)) &&& 1) = 0 then
        f_X11_mostAlike_125 n z (f_X11_mostAlike_25 n z i) h v0 v1 v2 v3 v4 v5
      else
        (gR z h 11 v0 5).bind fun a3 =>
        (f_X5_put z h a3 v1 6 v5).bind fun h4 =>
        (gR z h4 11 v0 10).bind fun a5 =>
        (gR z h4 11 v0 5).bind fun a6 =>
        (f_X7_about z h4 a5 a6 v1).bind fun h7 =>
        (gR z h7 11 v0 10).bind fun a8 =>
        (gR z h7 11 v0 3).bind fun a9 =>
        (f_X7_worthOf n z h7 a8 a9 v2).bind fun (x10, h11) =>
        (some (x10 - (-9))).bind fun x12 =>
        if x12 < 0 then
          f_X11_mostAlike_125 n z (f_X11_mostAlike_25 n z i) h11 v0 v1 v2 v3 v4 v5
        else
          (gR z h11 11 v0 15).bind fun a14 =>
          (aL z a14).bind fun x15 =>
          if x15 ≤ x12 then
            f_X11_mostAlike_125 n z (f_X11_mostAlike_25 n z i) h11 v0 v1 v2 v3 v4 v5
          else
            (gR z h11 11 v0 15).bind fun a17 =>
            (ldI z h11 a17 x12).bind fun x18 =>
            (stI z h11 a17 x12 (x18 + 1)).bind fun h19 =>
            (gR z h19 11 v0 15).bind fun a20 =>
            (ldI z h19 a20 x12).bind fun x21 =>
            (f_J9_max_7cf53 z h19 v4 x21).bind fun x22 =>
            f_X11_mostAlike_125 n z (f_X11_mostAlike_25 n z i) h19 v0 v1 v2 v3 x22 v5
def f_X11_mostAlike (n : Nat) (z : Sh) (h : Hp) (v0 : Nat) (v1 : Int32) (v2 : Int32) (v3 : Int32) : Option (Int32 × Hp) :=
  if z.K v0 = 11 then
    (gR z h 11 v0 15).bind fun a1 =>
    (f_J7_fill_53178 n z h a1 0).bind fun h2 =>
    (gR z h2 11 v0 5).bind fun a3 =>
    (gR z h2 11 v0 4).bind fun a4 =>
    (f_X5_copy z h2 a3 a4).bind fun h5 =>
    f_X11_mostAlike_25 n z n h5 v0 v1 v2 v3 0 0
  else none
theorem k_X11_mostAlike {n : Nat} {z : Sh} {h : Hp} {v0 : Nat} {v1 : Int32} {v2 : Int32} {v3 : Int32} {w : Int32 × Hp} (hf : f_X11_mostAlike n z h v0 v1 v2 v3 = some w) : z.K v0 = 11 := by
  unfold f_X11_mostAlike at hf
  exact (if_some hf).1
set_option maxHeartbeats 4000000 in
theorem w_X11_mostAlike_125 {p : Program} {l : Launch} {e : Env} {s : State} {m : MethodId} {args : Array Value} {below : List Frame} {meth : Method} {c : Code} {s0 : State} {E : Ev} {z : Sh} {n : Nat} {k25 : Hp → Nat → Int32 → Int32 → Int32 → Int32 → Int32 → Option (Int32 × Hp)} {r : Int32} {h' : Hp} (G : Gl s0 E) (B : Bd p s0 s E m c cX11_mostAlike 7 RX11) (hz : s0.heap.size ≤ z.sz) (hc0 : s.heap.size + 0 = z.sz) (hr : meth.sig.returnType = (some .int)) (hlk : meth.locks = false) (hk25 : ∀ (h : Hp) (v0 : Nat) (v1 : Int32) (v2 : Int32) (v3 : Int32) (v4 : Int32) (v5 : Int32) (H : Heap) (locs : List Loc) (ls : Array Slot), Pw s0 s E z h H locs → lv_has ls 7 [(0, .ref v0), (1, .int v1), (2, .int v2), (3, .int v3), (4, .int v4), (5, .int v5)] → k25 h v0 v1 v2 v3 v4 v5 = some (r, h') → W p l e (rmO 3 81) s m args below meth c H locs 0 0 (Zt below s0 E z h' (some (.int r)) args s 0 0) (F0 m 25 ls [])) : ∀ (h : Hp) (v0 : Nat) (v1 : Int32) (v2 : Int32) (v3 : Int32) (v4 : Int32) (v5 : Int32) (H : Heap) (locs : List Loc) (ls : Array Slot), Pw s0 s E z h H locs → lv_has ls 7 [(0, .ref v0), (1, .int v1), (2, .int v2), (3, .int v3), (4, .int v4), (5, .int v5)] → f_X11_mostAlike_125 n z k25 h v0 v1 v2 v3 v4 v5 = some (r, h') → W p l e (rmO 3 81) s m args below meth c H locs 0 0 (Zt below s0 E z h' (some (.int r)) args s 0 0) (F0 m 125 ls []) := by
  have hx := B.1
  have hb := B.2.1
  intro h v0 v1 v2 v3 v4 v5 H locs ls hw hl hf
  unfold f_X11_mostAlike_125 at hf
  obtain ⟨x1, e, hf⟩ := ob hf
  refine lv_iinc (v := x1) (lv' := [(5, .int x1), (0, .ref v0), (1, .int v1), (2, .int v2), (3, .int v3), (4, .int v4)]) hx hb dX11_mostAlike_125 hl (k := 5) rfl (Option.some.inj e) (by decide) rfl (fun ls hl => ?_)
  refine lv_goto (tgt := 25) hx hb dX11_mostAlike_128 (by decide) ?_
  exact hk25 h v0 v1 v2 v3 v4 x1 _ _ _ hw (lv_sub hl [1, 2, 3, 4, 5, 0] rfl) hf
set_option maxHeartbeats 4000000 in
theorem w_X11_mostAlike_25 {p : Program} {l : Launch} {e : Env} {s : State} {m : MethodId} {args : Array Value} {below : List Frame} {meth : Method} {c : Code} {s0 : State} {E : Ev} {z : Sh} {n : Nat} {r : Int32} {h' : Hp} (G : Gl s0 E) (B : Bd p s0 s E m c cX11_mostAlike 7 RX11) (hz : s0.heap.size ≤ z.sz) (hc0 : s.heap.size + 0 = z.sz) (hr : meth.sig.returnType = (some .int)) (hlk : meth.locks = false) : ∀ (i : Nat), ∀ (h : Hp) (v0 : Nat) (v1 : Int32) (v2 : Int32) (v3 : Int32) (v4 : Int32) (v5 : Int32) (H : Heap) (locs : List Loc) (ls : Array Slot), Pw s0 s E z h H locs → lv_has ls 7 [(0, .ref v0), (1, .int v1), (2, .int v2), (3, .int v3), (4, .int v4), (5, .int v5)] → f_X11_mostAlike_25 n z i h v0 v1 v2 v3 v4 v5 = some (r, h') → W p l e (rmO 3 81) s m args below meth c H locs 0 0 (Zt below s0 E z h' (some (.int r)) args s 0 0) (F0 m 25 ls []) := by
  have hx := B.1
  have hb := B.2.1
  intro i
  induction i with
  | zero =>
    intro h v0 v1 v2 v3 v4 v5 H locs ls hw hl hf
    have hf := (f_X11_mostAlike_25.eq_1 ..).symm.trans hf
    cases hf
  | succ i ih =>
    intro h v0 v1 v2 v3 v4 v5 H locs ls hw hl hf
    have hf := (f_X11_mostAlike_25.eq_2 ..).symm.trans hf
    refine lv_iload hx hb dX11_mostAlike_25 (lv_at hl 5 rfl) ?_
    refine lv_bipush (v := 10) hx hb dX11_mostAlike_27 (by decide) ?_
    refine lv_icmp_ge (tgt := 131) hx hb dX11_mostAlike_29 (by decide) (fun c1 => ?_) (fun c1 => ?_)
    · have hf := (if_pos c1).symm.trans hf
      refine lv_iload hx hb dX11_mostAlike_131 (lv_at hl 4 rfl) ?_
      obtain ⟨rfl, rfl⟩ := so2 hf
      exact q_iret B hw hz hc0 hr hlk dX11_mostAlike_133
    · have hf := (if_neg c1).symm.trans hf
      refine lv_iload_n hx hb dX11_mostAlike_32 rfl (lv_at hl 3 rfl) ?_
      refine lv_iload hx hb dX11_mostAlike_33 (lv_at hl 5 rfl) ?_
      refine lv_ishr hx hb dX11_mostAlike_35 ?_
      refine lv_iconst (v := 1) hx hb dX11_mostAlike_36 (by decide) ?_
      refine lv_iand hx hb dX11_mostAlike_37 ?_
      refine lv_if_ne (tgt := 44) hx hb dX11_mostAlike_38 (by decide) (fun c2 => ?_) (fun c2 => ?_)
      · have hf := (if_neg c2).symm.trans hf
        refine lv_aload_n hx hb dX11_mostAlike_44 rfl (lv_at hl 0 rfl) ?_
        obtain ⟨a3, e, hf⟩ := ob hf
        refine q_getR e B hw fd_11_5.1 fd_11_5.2.1 fd_11_5.2.2.1 fd_11_5.2.2.2.1 fd_11_5.2.2.2.2 rfl tw_2_107 dX11_mostAlike_45 ?_
        refine lv_iload_n hx hb dX11_mostAlike_48 rfl (lv_at hl 1 rfl) ?_
        refine lv_bipush (v := 6) hx hb dX11_mostAlike_49 (by decide) ?_
        refine lv_iload hx hb dX11_mostAlike_51 (lv_at hl 5 rfl) ?_
        obtain ⟨h4, e, hf⟩ := ob hf
        refine q_callVN (As := [.int v1, .int 6, .int v5]) (rest := []) (st1 := []) (c_X5_put G e) B hw hz hc0 (k_X5_put e) (by decide) (ci := 5) rfl rfl my_X5_put mv_X5_put tw_4_75 ⟨Nat.le_of_ble_eq_true rfl, Nat.le_of_ble_eq_true rfl⟩ ⟨Nat.zero_le _, Nat.zero_le _⟩ rfl hl.1 rfl rfl (Nat.le_of_ble_eq_true rfl) dX11_mostAlike_53 (fun H locs hw => ?_)
        refine lv_aload_n hx hb dX11_mostAlike_56 rfl (lv_at hl 0 rfl) ?_
        obtain ⟨a5, e, hf⟩ := ob hf
        refine q_getR e B hw fd_11_10.1 fd_11_10.2.1 fd_11_10.2.2.1 fd_11_10.2.2.2.1 fd_11_10.2.2.2.2 rfl tw_2_112 dX11_mostAlike_57 ?_
        refine lv_aload_n hx hb dX11_mostAlike_60 rfl (lv_at hl 0 rfl) ?_
        obtain ⟨a6, e, hf⟩ := ob hf
        refine q_getR e B hw fd_11_5.1 fd_11_5.2.1 fd_11_5.2.2.1 fd_11_5.2.2.2.1 fd_11_5.2.2.2.2 rfl tw_2_107 dX11_mostAlike_61 ?_
        refine lv_iload_n hx hb dX11_mostAlike_64 rfl (lv_at hl 1 rfl) ?_
        obtain ⟨h7, e, hf⟩ := ob hf
        refine q_callVN (As := [.ref a6, .int v1]) (rest := []) (st1 := []) (c_X7_about G e) B hw hz hc0 (k_X7_about e) (by decide) (ci := 7) rfl rfl my_X7_about mv_X7_about tw_3_226 ⟨Nat.le_of_ble_eq_true rfl, Nat.le_of_ble_eq_true rfl⟩ ⟨Nat.zero_le _, Nat.zero_le _⟩ rfl hl.1 rfl rfl (Nat.le_of_ble_eq_true rfl) dX11_mostAlike_65 (fun H locs hw => ?_)
        refine lv_aload_n hx hb dX11_mostAlike_68 rfl (lv_at hl 0 rfl) ?_
        obtain ⟨a8, e, hf⟩ := ob hf
        refine q_getR e B hw fd_11_10.1 fd_11_10.2.1 fd_11_10.2.2.1 fd_11_10.2.2.2.1 fd_11_10.2.2.2.2 rfl tw_2_112 dX11_mostAlike_69 ?_
        refine lv_aload_n hx hb dX11_mostAlike_72 rfl (lv_at hl 0 rfl) ?_
        obtain ⟨a9, e, hf⟩ := ob hf
        refine q_getR e B hw fd_11_3.1 fd_11_3.2.1 fd_11_3.2.2.1 fd_11_3.2.2.2.1 fd_11_3.2.2.2.2 rfl tw_2_105 dX11_mostAlike_73 ?_
        refine lv_iload_n hx hb dX11_mostAlike_76 rfl (lv_at hl 2 rfl) ?_
        obtain ⟨⟨x10, h11⟩, e, hf⟩ := ob hf
        refine q_callVN (As := [.ref a9, .int v2]) (rest := []) (st1 := [.int x10]) (c_X7_worthOf G e) B hw hz hc0 (k_X7_worthOf e) (by decide) (ci := 7) rfl rfl my_X7_worthOf mv_X7_worthOf tw_3_231 ⟨Nat.le_of_ble_eq_true rfl, Nat.le_of_ble_eq_true rfl⟩ ⟨Nat.zero_le _, Nat.zero_le _⟩ rfl hl.1 rfl rfl (Nat.le_of_ble_eq_true rfl) dX11_mostAlike_77 (fun H locs hw => ?_)
        refine lv_bipush (v := (-9)) hx hb dX11_mostAlike_80 (by decide) ?_
        refine lv_isub hx hb dX11_mostAlike_82 ?_
        obtain ⟨x12, e, hf⟩ := ob hf
        refine q_nmI e ?_
        refine lv_istore (lv' := [(6, .int x12), (0, .ref v0), (1, .int v1), (2, .int v2), (3, .int v3), (4, .int v4), (5, .int v5)]) hx hb dX11_mostAlike_83 hl (by decide) rfl (fun ls hl => ?_)
        refine lv_iload hx hb dX11_mostAlike_85 (lv_at hl 0 rfl) ?_
        refine lv_if_lt (tgt := 125) hx hb dX11_mostAlike_87 (by decide) (fun c13 => ?_) (fun c13 => ?_)
        · have hf := (if_pos c13).symm.trans hf
          exact w_X11_mostAlike_125 G B hz hc0 hr hlk ih h11 v0 v1 v2 v3 v4 v5 _ _ _ hw (lv_sub hl [1, 2, 3, 4, 5, 6] rfl) hf
        · have hf := (if_neg c13).symm.trans hf
          refine lv_iload hx hb dX11_mostAlike_90 (lv_at hl 0 rfl) ?_
          refine lv_aload_n hx hb dX11_mostAlike_92 rfl (lv_at hl 1 rfl) ?_
          obtain ⟨a14, e, hf⟩ := ob hf
          refine q_getR e B hw fd_11_15.1 fd_11_15.2.1 fd_11_15.2.2.1 fd_11_15.2.2.2.1 fd_11_15.2.2.2.2 rfl tw_2_117 dX11_mostAlike_93 ?_
          obtain ⟨x15, e, hf⟩ := ob hf
          refine q_len e B hw dX11_mostAlike_96 ?_
          refine lv_icmp_ge (tgt := 125) hx hb dX11_mostAlike_97 (by decide) (fun c16 => ?_) (fun c16 => ?_)
          · have hf := (if_pos c16).symm.trans hf
            exact w_X11_mostAlike_125 G B hz hc0 hr hlk ih h11 v0 v1 v2 v3 v4 v5 _ _ _ hw (lv_sub hl [1, 2, 3, 4, 5, 6] rfl) hf
          · have hf := (if_neg c16).symm.trans hf
            refine lv_aload_n hx hb dX11_mostAlike_100 rfl (lv_at hl 1 rfl) ?_
            obtain ⟨a17, e, hf⟩ := ob hf
            refine q_getR e B hw fd_11_15.1 fd_11_15.2.1 fd_11_15.2.2.1 fd_11_15.2.2.2.1 fd_11_15.2.2.2.2 rfl tw_2_117 dX11_mostAlike_101 ?_
            refine lv_iload hx hb dX11_mostAlike_104 (lv_at hl 0 rfl) ?_
            refine lv_dup2_11 hx hb dX11_mostAlike_106 rfl rfl ?_
            obtain ⟨x18, e, hf⟩ := ob hf
            refine q_ldI e B hw dX11_mostAlike_107 ?_
            refine lv_iconst (v := 1) hx hb dX11_mostAlike_108 (by decide) ?_
            refine lv_iadd hx hb dX11_mostAlike_109 ?_
            obtain ⟨h19, e, hf⟩ := ob hf
            refine q_stI e B hw dX11_mostAlike_110 (fun H locs hw => ?_)
            refine lv_iload hx hb dX11_mostAlike_111 (lv_at hl 5 rfl) ?_
            refine lv_aload_n hx hb dX11_mostAlike_113 rfl (lv_at hl 1 rfl) ?_
            obtain ⟨a20, e, hf⟩ := ob hf
            refine q_getR e B hw fd_11_15.1 fd_11_15.2.1 fd_11_15.2.2.1 fd_11_15.2.2.2.1 fd_11_15.2.2.2.2 rfl tw_2_117 dX11_mostAlike_114 ?_
            refine lv_iload hx hb dX11_mostAlike_117 (lv_at hl 0 rfl) ?_
            obtain ⟨x21, e, hf⟩ := ob hf
            refine q_ldI e B hw dX11_mostAlike_119 ?_
            obtain ⟨x22, e, hf⟩ := ob hf
            refine q_callS (As := [.int v4, .int x21]) (rest := []) (st1 := [.int x22]) (c_J9_max_7cf53 G e) B hw hz hc0 my_J9_max_7cf53 mv_J9_max_7cf53 tw_5_168 ⟨Nat.le_of_ble_eq_true rfl, Nat.le_of_ble_eq_true rfl⟩ ⟨Nat.zero_le _, Nat.zero_le _⟩ rfl hl.1 rfl rfl (Nat.le_of_ble_eq_true rfl) dX11_mostAlike_120 (fun H locs hw => ?_)
            refine lv_istore (lv' := [(4, .int x22), (6, .int x12), (0, .ref v0), (1, .int v1), (2, .int v2), (3, .int v3), (5, .int v5)]) hx hb dX11_mostAlike_123 hl (by decide) rfl (fun ls hl => ?_)
            exact w_X11_mostAlike_125 G B hz hc0 hr hlk ih h19 v0 v1 v2 v3 x22 v5 _ _ _ hw (lv_sub hl [2, 3, 4, 5, 0, 6] rfl) hf
      · have hf := (if_pos c2).symm.trans hf
        refine lv_goto (tgt := 125) hx hb dX11_mostAlike_41 (by decide) ?_
        exact w_X11_mostAlike_125 G B hz hc0 hr hlk ih h v0 v1 v2 v3 v4 v5 _ _ _ hw (lv_sub hl [0, 1, 2, 3, 4, 5] rfl) hf
set_option maxHeartbeats 4000000 in
theorem c_X11_mostAlike {l : Launch} {s0 : State} {E : Ev} (G : Gl s0 E) {n : Nat} {z : Sh} {h : Hp} {v0 : Nat} {v1 : Int32} {v2 : Int32} {v3 : Int32} {r : Int32} {h' : Hp} (hf : f_X11_mostAlike n z h v0 v1 v2 v3 = some (r, h')) : Ct l s0 E yX11_mostAlike cX11_mostAlike 7 (some .int) 3 81 [.ref v0, .int v1, .int v2, .int v3] z h h' (some (.int r)) := by
  refine Ct.of G (by decide) (Nat.le_of_ble_eq_true rfl) ?_
  intro p e s m below meth c ls B hw hz hc0 hr hlk hl
  have B : Bd p s0 s E m c cX11_mostAlike 7 RX11 := B
  have hx := B.1
  have hb := B.2.1
  have hl : lv_has ls 7 [(0, .ref v0), (1, .int v1), (2, .int v2), (3, .int v3)] := hl
  unfold f_X11_mostAlike at hf
  obtain ⟨_, hf⟩ := if_some hf
  refine lv_aload_n hx hb dX11_mostAlike_0 rfl (lv_at hl 0 rfl) ?_
  obtain ⟨a1, e, hf⟩ := ob hf
  refine q_getR e B hw fd_11_15.1 fd_11_15.2.1 fd_11_15.2.2.1 fd_11_15.2.2.2.1 fd_11_15.2.2.2.2 rfl tw_2_117 dX11_mostAlike_1 ?_
  refine lv_iconst (v := 0) hx hb dX11_mostAlike_4 (by decide) ?_
  obtain ⟨h2, e, hf⟩ := ob hf
  refine q_callS (As := [.ref a1, .int 0]) (rest := []) (st1 := []) (c_J7_fill_53178 G e) B hw hz hc0 my_J7_fill_53178 mv_J7_fill_53178 tw_5_167 ⟨Nat.le_of_ble_eq_true rfl, Nat.le_of_ble_eq_true rfl⟩ ⟨Nat.zero_le _, Nat.zero_le _⟩ rfl hl.1 rfl rfl (Nat.le_of_ble_eq_true rfl) dX11_mostAlike_5 (fun H locs hw => ?_)
  refine lv_aload_n hx hb dX11_mostAlike_8 rfl (lv_at hl 0 rfl) ?_
  obtain ⟨a3, e, hf⟩ := ob hf
  refine q_getR e B hw fd_11_5.1 fd_11_5.2.1 fd_11_5.2.2.1 fd_11_5.2.2.2.1 fd_11_5.2.2.2.2 rfl tw_2_107 dX11_mostAlike_9 ?_
  refine lv_aload_n hx hb dX11_mostAlike_12 rfl (lv_at hl 0 rfl) ?_
  obtain ⟨a4, e, hf⟩ := ob hf
  refine q_getR e B hw fd_11_4.1 fd_11_4.2.1 fd_11_4.2.2.1 fd_11_4.2.2.2.1 fd_11_4.2.2.2.2 rfl tw_2_106 dX11_mostAlike_13 ?_
  obtain ⟨h5, e, hf⟩ := ob hf
  refine q_callVN (As := [.ref a4]) (rest := []) (st1 := []) (c_X5_copy G e) B hw hz hc0 (k_X5_copy e) (by decide) (ci := 5) rfl rfl my_X5_copy mv_X5_copy tw_4_25 ⟨Nat.le_of_ble_eq_true rfl, Nat.le_of_ble_eq_true rfl⟩ ⟨Nat.zero_le _, Nat.zero_le _⟩ rfl hl.1 rfl rfl (Nat.le_of_ble_eq_true rfl) dX11_mostAlike_16 (fun H locs hw => ?_)
  refine lv_iconst (v := 0) hx hb dX11_mostAlike_19 (by decide) ?_
  refine lv_istore (lv' := [(4, .int 0), (0, .ref v0), (1, .int v1), (2, .int v2), (3, .int v3)]) hx hb dX11_mostAlike_20 hl (by decide) rfl (fun ls hl => ?_)
  refine lv_iconst (v := 0) hx hb dX11_mostAlike_22 (by decide) ?_
  refine lv_istore (lv' := [(5, .int 0), (4, .int 0), (0, .ref v0), (1, .int v1), (2, .int v2), (3, .int v3)]) hx hb dX11_mostAlike_23 hl (by decide) rfl (fun ls hl => ?_)
  exact w_X11_mostAlike_25 G B hz hc0 hr hlk  n h5 v0 v1 v2 v3 0 0 _ _ _ hw (lv_sub hl [2, 3, 4, 5, 1, 0] rfl) hf
/-! SecondLifeModel.keyAt()I -/
def f_X12_keyAt_97 (n : Nat) (z : Sh) (h : Hp) (k4 : Nat → Int32 → Int32 → Option (Int32)) : Nat → Nat → Int32 → Int32 → Option (Int32)
  | 0, _, _, _ => none
  | i + 1, v0, v1, v2 =>
    (f_J0_charAt_5068e z h (z.st 46) v2).bind fun x1 =>
    if x1 = 32 then
      (some (v2 + 1)).bind fun x3 =>
      (some (v1 + 1)).bind fun x4 =>
      k4 v0 x4 x3
    else
      (some (v2 + 1)).bind fun x5 =>
      (f_X12_keyAt_97 n z h k4 i) v0 v1 x5
def f_X12_keyAt_69 (n : Nat) (z : Sh) (h : Hp) (k4 : Nat → Int32 → Int32 → Option (Int32)) (v0 : Nat) (v1 : Int32) (v2 : Int32) (v3 : Int32) : Option (Int32) :=
  (f_J0_charAt_5068e z h (z.st 46) (v2 + v3)).bind fun x1 =>
  if x1 = 32 then
    (gI z h 12 v0 6).bind fun x3 =>
    (gI z h 12 v0 7).bind fun x4 =>
    if (x3 + v3) = x4 then
      some v1
    else
      f_X12_keyAt_97 n z h k4 n v0 v1 v2
  else
    f_X12_keyAt_97 n z h k4 n v0 v1 v2
def f_X12_keyAt_15 (n : Nat) (z : Sh) (h : Hp) (k4 : Nat → Int32 → Int32 → Option (Int32)) : Nat → Nat → Int32 → Int32 → Int32 → Option (Int32)
  | 0, _, _, _, _ => none
  | i + 1, v0, v1, v2, v3 =>
    (f_J0_charAt_5068e z h (z.st 46) (v2 + v3)).bind fun x1 =>
    if x1 = 32 then
      f_X12_keyAt_69 n z h k4 v0 v1 v2 v3
    else
      (gI z h 12 v0 6).bind fun x3 =>
      (gI z h 12 v0 7).bind fun x4 =>
      if x4 ≤ (x3 + v3) then
        f_X12_keyAt_69 n z h k4 v0 v1 v2 v3
      else
        (gR z h 12 v0 3).bind fun a6 =>
        (gI z h 12 v0 6).bind fun x7 =>
        (ldI z h a6 (x7 + v3)).bind fun x8 =>
        (f_J0_charAt_5068e z h (z.st 46) (v2 + v3)).bind fun x9 =>
        if x8 = x9 then
          (some (v3 + 1)).bind fun x11 =>
          (f_X12_keyAt_15 n z h k4 i) v0 v1 v2 x11
        else
          f_X12_keyAt_69 n z h k4 v0 v1 v2 v3
def f_X12_keyAt_4 (n : Nat) (z : Sh) (h : Hp) : Nat → Nat → Int32 → Int32 → Option (Int32)
  | 0, _, _, _ => none
  | i + 1, v0, v1, v2 =>
    (f_J0_length_8abf5 z h (z.st 46)).bind fun x1 =>
    if x1 ≤ v2 then
      some (23 : Int32)
    else
      f_X12_keyAt_15 n z h (f_X12_keyAt_4 n z h i) n v0 v1 v2 0
def f_X12_keyAt (n : Nat) (z : Sh) (h : Hp) (v0 : Nat) : Option (Int32) :=
  if z.K v0 = 12 then
    f_X12_keyAt_4 n z h n v0 0 1
  else none
theorem k_X12_keyAt {n : Nat} {z : Sh} {h : Hp} {v0 : Nat} {w : Int32} (hf : f_X12_keyAt n z h v0 = some w) : z.K v0 = 12 := by
  unfold f_X12_keyAt at hf
  exact (if_some hf).1
set_option maxHeartbeats 4000000 in
theorem w_X12_keyAt_97 {p : Program} {l : Launch} {e : Env} {s : State} {m : MethodId} {args : Array Value} {below : List Frame} {meth : Method} {c : Code} {s0 : State} {E : Ev} {z : Sh} {h : Hp} {n : Nat} {k4 : Nat → Int32 → Int32 → Option (Int32)} {r : Int32} (G : Gl s0 E) (B : Bd p s0 s E m c cX12_keyAt 4 RX12) (hz : s0.heap.size ≤ z.sz) (hc0 : s.heap.size + 0 = z.sz) (hr : meth.sig.returnType = (some .int)) (hlk : meth.locks = false) (hk4 : ∀ (v0 : Nat) (v1 : Int32) (v2 : Int32) (H : Heap) (locs : List Loc) (ls : Array Slot), Pw s0 s E z h H locs → lv_has ls 4 [(0, .ref v0), (1, .int v1), (2, .int v2)] → k4 v0 v1 v2 = some r → W p l e (rmO 4 85) s m args below meth c H locs 0 0 (Zt below s0 E z h (some (.int r)) args s 0 0) (F0 m 4 ls [])) : ∀ (i : Nat), ∀ (v0 : Nat) (v1 : Int32) (v2 : Int32) (H : Heap) (locs : List Loc) (ls : Array Slot), Pw s0 s E z h H locs → lv_has ls 4 [(0, .ref v0), (1, .int v1), (2, .int v2)] → f_X12_keyAt_97 n z h k4 i v0 v1 v2 = some r → W p l e (rmO 4 85) s m args below meth c H locs 0 0 (Zt below s0 E z h (some (.int r)) args s 0 0) (F0 m 97 ls []) := by
  have hx := B.1
  have hb := B.2.1
  intro i
  induction i with
  | zero =>
    intro v0 v1 v2 H locs ls hw hl hf
    have hf := (f_X12_keyAt_97.eq_1 ..).symm.trans hf
    cases hf
  | succ i ih =>
    intro v0 v1 v2 H locs ls hw hl hf
    have hf := (f_X12_keyAt_97.eq_2 ..).symm.trans hf
    refine q_ldcS (tx := " town years trades person talent fear cash dies worth grows if then else end year trade last streak life old and or not ") G (i := 46) (List.mem_of_getElem? (i := 36) (by decide +kernel)) B hw dX12_keyAt_97 ?_
    refine lv_iload_n hx hb dX12_keyAt_99 rfl (lv_at hl 2 rfl) ?_
    obtain ⟨x1, e, hf⟩ := ob hf
    refine q_callVS (As := [.int v2]) (rest := []) (st1 := [.int x1]) (c_J0_charAt_5068e G e) B hw hz hc0 (k_J0_charAt_5068e e) rfl my_J0_charAt_5068e mv_J0_charAt_5068e tw_6_183 ⟨Nat.le_of_ble_eq_true rfl, Nat.le_of_ble_eq_true rfl⟩ ⟨Nat.zero_le _, Nat.zero_le _⟩ rfl hl.1 rfl rfl (Nat.le_of_ble_eq_true rfl) dX12_keyAt_100 (fun H locs hw => ?_)
    refine lv_bipush (v := 32) hx hb dX12_keyAt_103 (by decide) ?_
    refine lv_icmp_eq (tgt := 114) hx hb dX12_keyAt_105 (by decide) (fun c2 => ?_) (fun c2 => ?_)
    · have hf := (if_pos c2).symm.trans hf
      obtain ⟨x3, e, hf⟩ := ob hf
      refine lv_iinc (v := x3) (lv' := [(2, .int x3), (0, .ref v0), (1, .int v1)]) hx hb dX12_keyAt_114 hl (k := 2) rfl (Option.some.inj e) (by decide) rfl (fun ls hl => ?_)
      obtain ⟨x4, e, hf⟩ := ob hf
      refine lv_iinc (v := x4) (lv' := [(1, .int x4), (2, .int x3), (0, .ref v0)]) hx hb dX12_keyAt_117 hl (k := 2) rfl (Option.some.inj e) (by decide) rfl (fun ls hl => ?_)
      refine lv_goto (tgt := 4) hx hb dX12_keyAt_120 (by decide) ?_
      exact hk4 v0 x4 x3 _ _ _ hw (lv_sub hl [2, 0, 1] rfl) hf
    · have hf := (if_neg c2).symm.trans hf
      obtain ⟨x5, e, hf⟩ := ob hf
      refine lv_iinc (v := x5) (lv' := [(2, .int x5), (0, .ref v0), (1, .int v1)]) hx hb dX12_keyAt_108 hl (k := 2) rfl (Option.some.inj e) (by decide) rfl (fun ls hl => ?_)
      refine lv_goto (tgt := 97) hx hb dX12_keyAt_111 (by decide) ?_
      exact ih v0 v1 x5 _ _ _ hw (lv_sub hl [1, 2, 0] rfl) hf
set_option maxHeartbeats 4000000 in
theorem w_X12_keyAt_69 {p : Program} {l : Launch} {e : Env} {s : State} {m : MethodId} {args : Array Value} {below : List Frame} {meth : Method} {c : Code} {s0 : State} {E : Ev} {z : Sh} {h : Hp} {n : Nat} {k4 : Nat → Int32 → Int32 → Option (Int32)} {r : Int32} (G : Gl s0 E) (B : Bd p s0 s E m c cX12_keyAt 4 RX12) (hz : s0.heap.size ≤ z.sz) (hc0 : s.heap.size + 0 = z.sz) (hr : meth.sig.returnType = (some .int)) (hlk : meth.locks = false) (hk4 : ∀ (v0 : Nat) (v1 : Int32) (v2 : Int32) (H : Heap) (locs : List Loc) (ls : Array Slot), Pw s0 s E z h H locs → lv_has ls 4 [(0, .ref v0), (1, .int v1), (2, .int v2)] → k4 v0 v1 v2 = some r → W p l e (rmO 4 85) s m args below meth c H locs 0 0 (Zt below s0 E z h (some (.int r)) args s 0 0) (F0 m 4 ls [])) : ∀ (v0 : Nat) (v1 : Int32) (v2 : Int32) (v3 : Int32) (H : Heap) (locs : List Loc) (ls : Array Slot), Pw s0 s E z h H locs → lv_has ls 4 [(0, .ref v0), (1, .int v1), (2, .int v2), (3, .int v3)] → f_X12_keyAt_69 n z h k4 v0 v1 v2 v3 = some r → W p l e (rmO 4 85) s m args below meth c H locs 0 0 (Zt below s0 E z h (some (.int r)) args s 0 0) (F0 m 69 ls []) := by
  have hx := B.1
  have hb := B.2.1
  intro v0 v1 v2 v3 H locs ls hw hl hf
  unfold f_X12_keyAt_69 at hf
  refine q_ldcS (tx := " town years trades person talent fear cash dies worth grows if then else end year trade last streak life old and or not ") G (i := 46) (List.mem_of_getElem? (i := 36) (by decide +kernel)) B hw dX12_keyAt_69 ?_
  refine lv_iload_n hx hb dX12_keyAt_71 rfl (lv_at hl 2 rfl) ?_
  refine lv_iload_n hx hb dX12_keyAt_72 rfl (lv_at hl 3 rfl) ?_
  refine lv_iadd hx hb dX12_keyAt_73 ?_
  obtain ⟨x1, e, hf⟩ := ob hf
  refine q_callVS (As := [.int (v2 + v3)]) (rest := []) (st1 := [.int x1]) (c_J0_charAt_5068e G e) B hw hz hc0 (k_J0_charAt_5068e e) rfl my_J0_charAt_5068e mv_J0_charAt_5068e tw_6_183 ⟨Nat.le_of_ble_eq_true rfl, Nat.le_of_ble_eq_true rfl⟩ ⟨Nat.zero_le _, Nat.zero_le _⟩ rfl hl.1 rfl rfl (Nat.le_of_ble_eq_true rfl) dX12_keyAt_74 (fun H locs hw => ?_)
  refine lv_bipush (v := 32) hx hb dX12_keyAt_77 (by decide) ?_
  refine lv_icmp_ne (tgt := 97) hx hb dX12_keyAt_79 (by decide) (fun c2 => ?_) (fun c2 => ?_)
  · have hf := (if_neg c2).symm.trans hf
    exact w_X12_keyAt_97 G B hz hc0 hr hlk hk4 n v0 v1 v2 _ _ _ hw (lv_sub hl [0, 1, 2] rfl) hf
  · have hf := (if_pos c2).symm.trans hf
    refine lv_aload_n hx hb dX12_keyAt_82 rfl (lv_at hl 0 rfl) ?_
    obtain ⟨x3, e, hf⟩ := ob hf
    refine q_getI e B hw fd_12_6.1 fd_12_6.2.1 fd_12_6.2.2.1 fd_12_6.2.2.2.1 fd_12_6.2.2.2.2 rfl tw_6_49 dX12_keyAt_83 ?_
    refine lv_iload_n hx hb dX12_keyAt_86 rfl (lv_at hl 3 rfl) ?_
    refine lv_iadd hx hb dX12_keyAt_87 ?_
    refine lv_aload_n hx hb dX12_keyAt_88 rfl (lv_at hl 0 rfl) ?_
    obtain ⟨x4, e, hf⟩ := ob hf
    refine q_getI e B hw fd_12_7.1 fd_12_7.2.1 fd_12_7.2.2.1 fd_12_7.2.2.2.1 fd_12_7.2.2.2.2 rfl tw_6_50 dX12_keyAt_89 ?_
    refine lv_icmp_ne (tgt := 97) hx hb dX12_keyAt_92 (by decide) (fun c5 => ?_) (fun c5 => ?_)
    · have hf := (if_neg c5).symm.trans hf
      exact w_X12_keyAt_97 G B hz hc0 hr hlk hk4 n v0 v1 v2 _ _ _ hw (lv_sub hl [0, 1, 2] rfl) hf
    · have hf := (if_pos c5).symm.trans hf
      refine lv_iload_n hx hb dX12_keyAt_95 rfl (lv_at hl 1 rfl) ?_
      obtain rfl := so hf
      exact q_iret B hw hz hc0 hr hlk dX12_keyAt_96
set_option maxHeartbeats 4000000 in
theorem w_X12_keyAt_15 {p : Program} {l : Launch} {e : Env} {s : State} {m : MethodId} {args : Array Value} {below : List Frame} {meth : Method} {c : Code} {s0 : State} {E : Ev} {z : Sh} {h : Hp} {n : Nat} {k4 : Nat → Int32 → Int32 → Option (Int32)} {r : Int32} (G : Gl s0 E) (B : Bd p s0 s E m c cX12_keyAt 4 RX12) (hz : s0.heap.size ≤ z.sz) (hc0 : s.heap.size + 0 = z.sz) (hr : meth.sig.returnType = (some .int)) (hlk : meth.locks = false) (hk4 : ∀ (v0 : Nat) (v1 : Int32) (v2 : Int32) (H : Heap) (locs : List Loc) (ls : Array Slot), Pw s0 s E z h H locs → lv_has ls 4 [(0, .ref v0), (1, .int v1), (2, .int v2)] → k4 v0 v1 v2 = some r → W p l e (rmO 4 85) s m args below meth c H locs 0 0 (Zt below s0 E z h (some (.int r)) args s 0 0) (F0 m 4 ls [])) : ∀ (i : Nat), ∀ (v0 : Nat) (v1 : Int32) (v2 : Int32) (v3 : Int32) (H : Heap) (locs : List Loc) (ls : Array Slot), Pw s0 s E z h H locs → lv_has ls 4 [(0, .ref v0), (1, .int v1), (2, .int v2), (3, .int v3)] → f_X12_keyAt_15 n z h k4 i v0 v1 v2 v3 = some r → W p l e (rmO 4 85) s m args below meth c H locs 0 0 (Zt below s0 E z h (some (.int r)) args s 0 0) (F0 m 15 ls []) := by
  have hx := B.1
  have hb := B.2.1
  intro i
  induction i with
  | zero =>
    intro v0 v1 v2 v3 H locs ls hw hl hf
    have hf := (f_X12_keyAt_15.eq_1 ..).symm.trans hf
    cases hf
  | succ i ih =>
    intro v0 v1 v2 v3 H locs ls hw hl hf
    have hf := (f_X12_keyAt_15.eq_2 ..).symm.trans hf
    refine q_ldcS (tx := " town years trades person talent fear cash dies worth grows if then else end year trade last streak life old and or not ") G (i := 46) (List.mem_of_getElem? (i := 36) (by decide +kernel)) B hw dX12_keyAt_15 ?_
    refine lv_iload_n hx hb dX12_keyAt_17 rfl (lv_at hl 2 rfl) ?_
    refine lv_iload_n hx hb dX12_keyAt_18 rfl (lv_at hl 3 rfl) ?_
    refine lv_iadd hx hb dX12_keyAt_19 ?_
    obtain ⟨x1, e, hf⟩ := ob hf
    refine q_callVS (As := [.int (v2 + v3)]) (rest := []) (st1 := [.int x1]) (c_J0_charAt_5068e G e) B hw hz hc0 (k_J0_charAt_5068e e) rfl my_J0_charAt_5068e mv_J0_charAt_5068e tw_6_183 ⟨Nat.le_of_ble_eq_true rfl, Nat.le_of_ble_eq_true rfl⟩ ⟨Nat.zero_le _, Nat.zero_le _⟩ rfl hl.1 rfl rfl (Nat.le_of_ble_eq_true rfl) dX12_keyAt_20 (fun H locs hw => ?_)
    refine lv_bipush (v := 32) hx hb dX12_keyAt_23 (by decide) ?_
    refine lv_icmp_eq (tgt := 69) hx hb dX12_keyAt_25 (by decide) (fun c2 => ?_) (fun c2 => ?_)
    · have hf := (if_pos c2).symm.trans hf
      exact w_X12_keyAt_69 G B hz hc0 hr hlk hk4 v0 v1 v2 v3 _ _ _ hw (lv_sub hl [0, 1, 2, 3] rfl) hf
    · have hf := (if_neg c2).symm.trans hf
      refine lv_aload_n hx hb dX12_keyAt_28 rfl (lv_at hl 0 rfl) ?_
      obtain ⟨x3, e, hf⟩ := ob hf
      refine q_getI e B hw fd_12_6.1 fd_12_6.2.1 fd_12_6.2.2.1 fd_12_6.2.2.2.1 fd_12_6.2.2.2.2 rfl tw_6_49 dX12_keyAt_29 ?_
      refine lv_iload_n hx hb dX12_keyAt_32 rfl (lv_at hl 3 rfl) ?_
      refine lv_iadd hx hb dX12_keyAt_33 ?_
      refine lv_aload_n hx hb dX12_keyAt_34 rfl (lv_at hl 0 rfl) ?_
      obtain ⟨x4, e, hf⟩ := ob hf
      refine q_getI e B hw fd_12_7.1 fd_12_7.2.1 fd_12_7.2.2.1 fd_12_7.2.2.2.1 fd_12_7.2.2.2.2 rfl tw_6_50 dX12_keyAt_35 ?_
      refine lv_icmp_ge (tgt := 69) hx hb dX12_keyAt_38 (by decide) (fun c5 => ?_) (fun c5 => ?_)
      · have hf := (if_pos c5).symm.trans hf
        exact w_X12_keyAt_69 G B hz hc0 hr hlk hk4 v0 v1 v2 v3 _ _ _ hw (lv_sub hl [0, 1, 2, 3] rfl) hf
      · have hf := (if_neg c5).symm.trans hf
        refine lv_aload_n hx hb dX12_keyAt_41 rfl (lv_at hl 0 rfl) ?_
        obtain ⟨a6, e, hf⟩ := ob hf
        refine q_getR e B hw fd_12_3.1 fd_12_3.2.1 fd_12_3.2.2.1 fd_12_3.2.2.2.1 fd_12_3.2.2.2.2 rfl tw_6_46 dX12_keyAt_42 ?_
        refine lv_aload_n hx hb dX12_keyAt_45 rfl (lv_at hl 0 rfl) ?_
        obtain ⟨x7, e, hf⟩ := ob hf
        refine q_getI e B hw fd_12_6.1 fd_12_6.2.1 fd_12_6.2.2.1 fd_12_6.2.2.2.1 fd_12_6.2.2.2.2 rfl tw_6_49 dX12_keyAt_46 ?_
        refine lv_iload_n hx hb dX12_keyAt_49 rfl (lv_at hl 3 rfl) ?_
        refine lv_iadd hx hb dX12_keyAt_50 ?_
        obtain ⟨x8, e, hf⟩ := ob hf
        refine q_ldI e B hw dX12_keyAt_51 ?_
        refine q_ldcS (tx := " town years trades person talent fear cash dies worth grows if then else end year trade last streak life old and or not ") G (i := 46) (List.mem_of_getElem? (i := 36) (by decide +kernel)) B hw dX12_keyAt_52 ?_
        refine lv_iload_n hx hb dX12_keyAt_54 rfl (lv_at hl 2 rfl) ?_
        refine lv_iload_n hx hb dX12_keyAt_55 rfl (lv_at hl 3 rfl) ?_
        refine lv_iadd hx hb dX12_keyAt_56 ?_
        obtain ⟨x9, e, hf⟩ := ob hf
        refine q_callVS (As := [.int (v2 + v3)]) (rest := [.int x8]) (st1 := [.int x9, .int x8]) (c_J0_charAt_5068e G e) B hw hz hc0 (k_J0_charAt_5068e e) rfl my_J0_charAt_5068e mv_J0_charAt_5068e tw_6_183 ⟨Nat.le_of_ble_eq_true rfl, Nat.le_of_ble_eq_true rfl⟩ ⟨Nat.zero_le _, Nat.zero_le _⟩ rfl hl.1 rfl rfl (Nat.le_of_ble_eq_true rfl) dX12_keyAt_57 (fun H locs hw => ?_)
        refine lv_icmp_ne (tgt := 69) hx hb dX12_keyAt_60 (by decide) (fun c10 => ?_) (fun c10 => ?_)
        · have hf := (if_neg c10).symm.trans hf
          exact w_X12_keyAt_69 G B hz hc0 hr hlk hk4 v0 v1 v2 v3 _ _ _ hw (lv_sub hl [0, 1, 2, 3] rfl) hf
        · have hf := (if_pos c10).symm.trans hf
          obtain ⟨x11, e, hf⟩ := ob hf
          refine lv_iinc (v := x11) (lv' := [(3, .int x11), (0, .ref v0), (1, .int v1), (2, .int v2)]) hx hb dX12_keyAt_63 hl (k := 3) rfl (Option.some.inj e) (by decide) rfl (fun ls hl => ?_)
          refine lv_goto (tgt := 15) hx hb dX12_keyAt_66 (by decide) ?_
          exact ih v0 v1 v2 x11 _ _ _ hw (lv_sub hl [1, 2, 3, 0] rfl) hf
set_option maxHeartbeats 4000000 in
theorem w_X12_keyAt_4 {p : Program} {l : Launch} {e : Env} {s : State} {m : MethodId} {args : Array Value} {below : List Frame} {meth : Method} {c : Code} {s0 : State} {E : Ev} {z : Sh} {h : Hp} {n : Nat} {r : Int32} (G : Gl s0 E) (B : Bd p s0 s E m c cX12_keyAt 4 RX12) (hz : s0.heap.size ≤ z.sz) (hc0 : s.heap.size + 0 = z.sz) (hr : meth.sig.returnType = (some .int)) (hlk : meth.locks = false) : ∀ (i : Nat), ∀ (v0 : Nat) (v1 : Int32) (v2 : Int32) (H : Heap) (locs : List Loc) (ls : Array Slot), Pw s0 s E z h H locs → lv_has ls 4 [(0, .ref v0), (1, .int v1), (2, .int v2)] → f_X12_keyAt_4 n z h i v0 v1 v2 = some r → W p l e (rmO 4 85) s m args below meth c H locs 0 0 (Zt below s0 E z h (some (.int r)) args s 0 0) (F0 m 4 ls []) := by
  have hx := B.1
  have hb := B.2.1
  intro i
  induction i with
  | zero =>
    intro v0 v1 v2 H locs ls hw hl hf
    have hf := (f_X12_keyAt_4.eq_1 ..).symm.trans hf
    cases hf
  | succ i ih =>
    intro v0 v1 v2 H locs ls hw hl hf
    have hf := (f_X12_keyAt_4.eq_2 ..).symm.trans hf
    refine lv_iload_n hx hb dX12_keyAt_4 rfl (lv_at hl 2 rfl) ?_
    refine q_ldcS (tx := " town years trades person talent fear cash dies worth grows if then else end year trade last streak life old and or not ") G (i := 46) (List.mem_of_getElem? (i := 36) (by decide +kernel)) B hw dX12_keyAt_5 ?_
    obtain ⟨x1, e, hf⟩ := ob hf
    refine q_callVS (As := []) (rest := [.int v2]) (st1 := [.int x1, .int v2]) (c_J0_length_8abf5 G e) B hw hz hc0 (k_J0_length_8abf5 e) rfl my_J0_length_8abf5 mv_J0_length_8abf5 tw_6_182 ⟨Nat.le_of_ble_eq_true rfl, Nat.le_of_ble_eq_true rfl⟩ ⟨Nat.zero_le _, Nat.zero_le _⟩ rfl hl.1 rfl rfl (Nat.le_of_ble_eq_true rfl) dX12_keyAt_7 (fun H locs hw => ?_)
    refine lv_icmp_ge (tgt := 123) hx hb dX12_keyAt_10 (by decide) (fun c2 => ?_) (fun c2 => ?_)
    · have hf := (if_pos c2).symm.trans hf
      refine lv_bipush (v := 23) hx hb dX12_keyAt_123 (by decide) ?_
      obtain rfl := so hf
      exact q_iret B hw hz hc0 hr hlk dX12_keyAt_125
    · have hf := (if_neg c2).symm.trans hf
      refine lv_iconst (v := 0) hx hb dX12_keyAt_13 (by decide) ?_
      refine lv_istore_n (lv' := [(3, .int 0), (0, .ref v0), (1, .int v1), (2, .int v2)]) hx hb dX12_keyAt_14 rfl hl (by decide) rfl (fun ls hl => ?_)
      exact w_X12_keyAt_15 G B hz hc0 hr hlk ih n v0 v1 v2 0 _ _ _ hw (lv_sub hl [1, 2, 3, 0] rfl) hf
set_option maxHeartbeats 4000000 in
theorem c_X12_keyAt {l : Launch} {s0 : State} {E : Ev} (G : Gl s0 E) {n : Nat} {z : Sh} {h : Hp} {v0 : Nat} {r : Int32} (hf : f_X12_keyAt n z h v0 = some r) : Ct l s0 E yX12_keyAt cX12_keyAt 4 (some .int) 4 85 [.ref v0] z h h (some (.int r)) := by
  refine Ct.of G (by decide) (Nat.le_of_ble_eq_true rfl) ?_
  intro p e s m below meth c ls B hw hz hc0 hr hlk hl
  have B : Bd p s0 s E m c cX12_keyAt 4 RX12 := B
  have hx := B.1
  have hb := B.2.1
  have hl : lv_has ls 4 [(0, .ref v0)] := hl
  unfold f_X12_keyAt at hf
  obtain ⟨_, hf⟩ := if_some hf
  refine lv_iconst (v := 0) hx hb dX12_keyAt_0 (by decide) ?_
  refine lv_istore_n (lv' := [(1, .int 0), (0, .ref v0)]) hx hb dX12_keyAt_1 rfl hl (by decide) rfl (fun ls hl => ?_)
  refine lv_iconst (v := 1) hx hb dX12_keyAt_2 (by decide) ?_
  refine lv_istore_n (lv' := [(2, .int 1), (1, .int 0), (0, .ref v0)]) hx hb dX12_keyAt_3 rfl hl (by decide) rfl (fun ls hl => ?_)
  exact w_X12_keyAt_4 G B hz hc0 hr hlk  n v0 0 1 _ _ _ hw (lv_sub hl [2, 1, 0] rfl) hf
