/-! SecondLife.judge(II)I -/
def f_X11_judge_19 (n : Nat) (z : Sh) (h : Hp) : Option (Int32 × Hp) :=
  (f_X11_refused z h 2).bind fun x1 =>
  some (x1, h)
def f_X11_judge (n : Nat) (z : Sh) (h : Hp) (v0 : Nat) (v1 : Int32) (v2 : Int32) : Option (Int32 × Hp) :=
  if z.K v0 = 11 then
    (f_X11_trayAt z h v0 v1).bind fun o1 =>
    (match o1 with
    | none =>
      f_X11_judge_19 n z h
    | some a2 =>
      if v2 < 0 then
        f_X11_judge_19 n z h
      else
        if v2 ≤ 3 then
          (gI z h 9 a2 1).bind fun x5 =>
          if x5 = 0 then
            (f_X11_refused z h 6).bind fun x26 =>
            some (x26, h)
          else
            (gR z h 11 v0 5).bind fun a7 =>
            (gR z h 11 v0 4).bind fun a8 =>
            (f_X5_copy z h a7 a8).bind fun h9 =>
            (gR z h9 11 v0 11).bind fun a10 =>
            (gR z h9 11 v0 3).bind fun a11 =>
            (gR z h9 11 v0 5).bind fun a12 =>
            (f_X2_doAll n z h9 a10 a11 a12 a2).bind fun (x13, h14) =>
            if v2 = 0 then
              (gI z h14 9 a2 3).bind fun x24 =>
              if x24 ≤ x13 then
                some (((-1) : Int32), h14)
              else
                some (x13, h14)
            else
              if v2 = 1 then
                (gR z h14 11 v0 11).bind fun a22 =>
                (gI z h14 2 a22 1).bind fun x23 =>
                some (x23, h14)
              else
                if v2 = 2 then
                  (gR z h14 11 v0 5).bind fun a20 =>
                  (f_X5_wealth n z h14 a20).bind fun x21 =>
                  some (x21, h14)
                else
                  (gR z h14 11 v0 5).bind fun a18 =>
                  (f_X5_drawn n z h14 a18).bind fun x19 =>
                  some (x19, h14)
        else
          f_X11_judge_19 n z h)
  else none
theorem k_X11_judge {n : Nat} {z : Sh} {h : Hp} {v0 : Nat} {v1 : Int32} {v2 : Int32} {w : Int32 × Hp} (hf : f_X11_judge n z h v0 v1 v2 = some w) : z.K v0 = 11 := by
  unfold f_X11_judge at hf
  exact (if_some hf).1
set_option maxHeartbeats 4000000 in
theorem w_X11_judge_19 {p : Program} {l : Launch} {e : Env} {s : State} {m : MethodId} {args : Array Value} {below : List Frame} {meth : Method} {c : Code} {s0 : State} {E : Ev} {z : Sh} {n : Nat} {r : Int32} {h' : Hp} (G : Gl s0 E) (B : Bd p s0 s E m c cX11_judge 5 RX11) (hz : s0.heap.size ≤ z.sz) (hc0 : s.heap.size + 0 = z.sz) (hr : meth.sig.returnType = (some .int)) (hlk : meth.locks = false) : ∀ (h : Hp) (H : Heap) (locs : List Loc) (ls : Array Slot), Pw s0 s E z h H locs → lv_has ls 5 [] → f_X11_judge_19 n z h = some (r, h') → W p l e (rmO 6 147) s m args below meth c H locs 0 0 (Zt below s0 E z h' (some (.int r)) args s 0 0) (F0 m 19 ls []) := by
  have hx := B.1
  have hb := B.2.1
  intro h H locs ls hw hl hf
  unfold f_X11_judge_19 at hf
  refine lv_iconst (v := 2) hx hb dX11_judge_19 (by decide) ?_
  obtain ⟨x1, e, hf⟩ := ob hf
  refine q_callS (As := [.int 2]) (rest := []) (st1 := [.int x1]) (c_X11_refused G e) B hw hz hc0 my_X11_refused mv_X11_refused tw_2_155 ⟨Nat.le_of_ble_eq_true rfl, Nat.le_of_ble_eq_true rfl⟩ ⟨Nat.zero_le _, Nat.zero_le _⟩ rfl hl.1 rfl rfl (Nat.le_of_ble_eq_true rfl) dX11_judge_20 (fun H locs hw => ?_)
  obtain ⟨rfl, rfl⟩ := so2 hf
  exact q_iret B hw hz hc0 hr hlk dX11_judge_23
set_option maxHeartbeats 4000000 in
theorem c_X11_judge {l : Launch} {s0 : State} {E : Ev} (G : Gl s0 E) {n : Nat} {z : Sh} {h : Hp} {v0 : Nat} {v1 : Int32} {v2 : Int32} {r : Int32} {h' : Hp} (hf : f_X11_judge n z h v0 v1 v2 = some (r, h')) : Ct l s0 E yX11_judge cX11_judge 5 (some .int) 6 147 [.ref v0, .int v1, .int v2] z h h' (some (.int r)) := by
  refine Ct.of G (by decide) (Nat.le_of_ble_eq_true rfl) ?_
  intro p e s m below meth c ls B hw hz hc0 hr hlk hl
  have B : Bd p s0 s E m c cX11_judge 5 RX11 := B
  have hx := B.1
  have hb := B.2.1
  have hl : lv_has ls 5 [(0, .ref v0), (1, .int v1), (2, .int v2)] := hl
  unfold f_X11_judge at hf
  obtain ⟨_, hf⟩ := if_some hf
  refine lv_aload_n hx hb dX11_judge_0 rfl (lv_at hl 0 rfl) ?_
  refine lv_iload_n hx hb dX11_judge_1 rfl (lv_at hl 1 rfl) ?_
  obtain ⟨o1, e, hf⟩ := ob hf
  refine q_callV (As := [.int v1]) (rest := []) (st1 := [va_rf o1]) (c_X11_trayAt G e) B hw hz hc0 (k_X11_trayAt e) (by decide) (ci := 11) rfl rfl my_X11_trayAt mv_X11_trayAt tw_4_91 ⟨Nat.le_of_ble_eq_true rfl, Nat.le_of_ble_eq_true rfl⟩ ⟨Nat.zero_le _, Nat.zero_le _⟩ rfl hl.1 rfl rfl (Nat.le_of_ble_eq_true rfl) dX11_judge_2 (fun H locs hw => ?_)
  rcases o1 with _ | a2
  · refine lv_astore_nN (lv' := [(3, .null), (0, .ref v0), (1, .int v1), (2, .int v2)]) hx hb dX11_judge_5 rfl hl (by decide) rfl (fun ls hl => ?_)
    refine lv_aload_nN hx hb dX11_judge_6 rfl (lv_at hl 0 rfl) ?_
    refine lv_ifnullN (tgt := 19) hx hb dX11_judge_7 (by decide) ?_
    exact w_X11_judge_19 G B hz hc0 hr hlk  h _ _ _ hw (lv_sub hl [] rfl) hf
  · refine lv_astore_n (lv' := [(3, .ref a2), (0, .ref v0), (1, .int v1), (2, .int v2)]) hx hb dX11_judge_5 rfl hl (by decide) rfl (fun ls hl => ?_)
    refine lv_aload_n hx hb dX11_judge_6 rfl (lv_at hl 0 rfl) ?_
    refine lv_ifnull hx hb dX11_judge_7 ?_
    refine lv_iload_n hx hb dX11_judge_10 rfl (lv_at hl 3 rfl) ?_
    refine lv_if_lt (tgt := 19) hx hb dX11_judge_11 (by decide) (fun c3 => ?_) (fun c3 => ?_)
    · have hf := (if_pos c3).symm.trans hf
      exact w_X11_judge_19 G B hz hc0 hr hlk  h _ _ _ hw (lv_sub hl [] rfl) hf
    · have hf := (if_neg c3).symm.trans hf
      refine lv_iload_n hx hb dX11_judge_14 rfl (lv_at hl 3 rfl) ?_
      refine lv_iconst (v := 3) hx hb dX11_judge_15 (by decide) ?_
      refine lv_icmp_le (tgt := 24) hx hb dX11_judge_16 (by decide) (fun c4 => ?_) (fun c4 => ?_)
      · have hf := (if_pos c4).symm.trans hf
        refine lv_aload_n hx hb dX11_judge_24 rfl (lv_at hl 0 rfl) ?_
        obtain ⟨x5, e, hf⟩ := ob hf
        refine q_getIN e B hw fd_9_1.1 fd_9_1.2.1 fd_9_1.2.2.1 fd_9_1.2.2.2.1 fd_9_1.2.2.2.2 rfl tw_2_87 dX11_judge_25 ?_
        refine lv_if_ne (tgt := 37) hx hb dX11_judge_28 (by decide) (fun c6 => ?_) (fun c6 => ?_)
        · have hf := (if_neg c6).symm.trans hf
          refine lv_aload_n hx hb dX11_judge_37 rfl (lv_at hl 1 rfl) ?_
          obtain ⟨a7, e, hf⟩ := ob hf
          refine q_getR e B hw fd_11_5.1 fd_11_5.2.1 fd_11_5.2.2.1 fd_11_5.2.2.2.1 fd_11_5.2.2.2.2 rfl tw_2_107 dX11_judge_38 ?_
          refine lv_aload_n hx hb dX11_judge_41 rfl (lv_at hl 1 rfl) ?_
          obtain ⟨a8, e, hf⟩ := ob hf
          refine q_getR e B hw fd_11_4.1 fd_11_4.2.1 fd_11_4.2.2.1 fd_11_4.2.2.2.1 fd_11_4.2.2.2.2 rfl tw_2_106 dX11_judge_42 ?_
          obtain ⟨h9, e, hf⟩ := ob hf
          refine q_callVN (As := [.ref a8]) (rest := []) (st1 := []) (c_X5_copy G e) B hw hz hc0 (k_X5_copy e) (by decide) (ci := 5) rfl rfl my_X5_copy mv_X5_copy tw_4_25 ⟨Nat.le_of_ble_eq_true rfl, Nat.le_of_ble_eq_true rfl⟩ ⟨Nat.zero_le _, Nat.zero_le _⟩ rfl hl.1 rfl rfl (Nat.le_of_ble_eq_true rfl) dX11_judge_45 (fun H locs hw => ?_)
          refine lv_aload_n hx hb dX11_judge_48 rfl (lv_at hl 1 rfl) ?_
          obtain ⟨a10, e, hf⟩ := ob hf
          refine q_getR e B hw fd_11_11.1 fd_11_11.2.1 fd_11_11.2.2.1 fd_11_11.2.2.2.1 fd_11_11.2.2.2.2 rfl tw_2_113 dX11_judge_49 ?_
          refine lv_aload_n hx hb dX11_judge_52 rfl (lv_at hl 1 rfl) ?_
          obtain ⟨a11, e, hf⟩ := ob hf
          refine q_getR e B hw fd_11_3.1 fd_11_3.2.1 fd_11_3.2.2.1 fd_11_3.2.2.2.1 fd_11_3.2.2.2.2 rfl tw_2_105 dX11_judge_53 ?_
          refine lv_aload_n hx hb dX11_judge_56 rfl (lv_at hl 1 rfl) ?_
          obtain ⟨a12, e, hf⟩ := ob hf
          refine q_getR e B hw fd_11_5.1 fd_11_5.2.1 fd_11_5.2.2.1 fd_11_5.2.2.2.1 fd_11_5.2.2.2.2 rfl tw_2_107 dX11_judge_57 ?_
          refine lv_aload_n hx hb dX11_judge_60 rfl (lv_at hl 0 rfl) ?_
          obtain ⟨⟨x13, h14⟩, e, hf⟩ := ob hf
          refine q_callVN (As := [.ref a11, .ref a12, .ref a2]) (rest := []) (st1 := [.int x13]) (c_X2_doAll G e) B hw hz hc0 (k_X2_doAll e) (by decide) (ci := 2) rfl rfl my_X2_doAll mv_X2_doAll tw_4_95 ⟨Nat.le_of_ble_eq_true rfl, Nat.le_of_ble_eq_true rfl⟩ ⟨Nat.zero_le _, Nat.zero_le _⟩ rfl hl.1 rfl rfl (Nat.le_of_ble_eq_true rfl) dX11_judge_61 (fun H locs hw => ?_)
          refine lv_istore (lv' := [(4, .int x13), (3, .ref a2), (0, .ref v0), (1, .int v1), (2, .int v2)]) hx hb dX11_judge_64 hl (by decide) rfl (fun ls hl => ?_)
          refine lv_iload_n hx hb dX11_judge_66 rfl (lv_at hl 4 rfl) ?_
          refine lv_if_ne (tgt := 86) hx hb dX11_judge_67 (by decide) (fun c15 => ?_) (fun c15 => ?_)
          · have hf := (if_neg c15).symm.trans hf
            refine lv_iload_n hx hb dX11_judge_86 rfl (lv_at hl 4 rfl) ?_
            refine lv_iconst (v := 1) hx hb dX11_judge_87 (by decide) ?_
            refine lv_icmp_ne (tgt := 99) hx hb dX11_judge_88 (by decide) (fun c16 => ?_) (fun c16 => ?_)
            · have hf := (if_neg c16).symm.trans hf
              refine lv_iload_n hx hb dX11_judge_99 rfl (lv_at hl 4 rfl) ?_
              refine lv_iconst (v := 2) hx hb dX11_judge_100 (by decide) ?_
              refine lv_icmp_ne (tgt := 114) hx hb dX11_judge_101 (by decide) (fun c17 => ?_) (fun c17 => ?_)
              · have hf := (if_neg c17).symm.trans hf
                refine lv_aload_n hx hb dX11_judge_114 rfl (lv_at hl 2 rfl) ?_
                obtain ⟨a18, e, hf⟩ := ob hf
                refine q_getR e B hw fd_11_5.1 fd_11_5.2.1 fd_11_5.2.2.1 fd_11_5.2.2.2.1 fd_11_5.2.2.2.2 rfl tw_2_107 dX11_judge_115 ?_
                obtain ⟨x19, e, hf⟩ := ob hf
                refine q_callVN (As := []) (rest := []) (st1 := [.int x19]) (c_X5_drawn G e) B hw hz hc0 (k_X5_drawn e) (by decide) (ci := 5) rfl rfl my_X5_drawn mv_X5_drawn tw_4_124 ⟨Nat.le_of_ble_eq_true rfl, Nat.le_of_ble_eq_true rfl⟩ ⟨Nat.zero_le _, Nat.zero_le _⟩ rfl hl.1 rfl rfl (Nat.le_of_ble_eq_true rfl) dX11_judge_118 (fun H locs hw => ?_)
                obtain ⟨rfl, rfl⟩ := so2 hf
                exact q_iret B hw hz hc0 hr hlk dX11_judge_121
              · have hf := (if_pos c17).symm.trans hf
                refine lv_aload_n hx hb dX11_judge_104 rfl (lv_at hl 2 rfl) ?_
                obtain ⟨a20, e, hf⟩ := ob hf
                refine q_getR e B hw fd_11_5.1 fd_11_5.2.1 fd_11_5.2.2.1 fd_11_5.2.2.2.1 fd_11_5.2.2.2.2 rfl tw_2_107 dX11_judge_105 ?_
                obtain ⟨x21, e, hf⟩ := ob hf
                refine q_callVN (As := []) (rest := []) (st1 := [.int x21]) (c_X5_wealth G e) B hw hz hc0 (k_X5_wealth e) (by decide) (ci := 5) rfl rfl my_X5_wealth mv_X5_wealth tw_4_119 ⟨Nat.le_of_ble_eq_true rfl, Nat.le_of_ble_eq_true rfl⟩ ⟨Nat.zero_le _, Nat.zero_le _⟩ rfl hl.1 rfl rfl (Nat.le_of_ble_eq_true rfl) dX11_judge_108 (fun H locs hw => ?_)
                refine lv_goto (tgt := 121) hx hb dX11_judge_111 (by decide) ?_
                obtain ⟨rfl, rfl⟩ := so2 hf
                exact q_iret B hw hz hc0 hr hlk dX11_judge_121
            · have hf := (if_pos c16).symm.trans hf
              refine lv_aload_n hx hb dX11_judge_91 rfl (lv_at hl 2 rfl) ?_
              obtain ⟨a22, e, hf⟩ := ob hf
              refine q_getR e B hw fd_11_11.1 fd_11_11.2.1 fd_11_11.2.2.1 fd_11_11.2.2.2.1 fd_11_11.2.2.2.2 rfl tw_2_113 dX11_judge_92 ?_
              obtain ⟨x23, e, hf⟩ := ob hf
              refine q_getIN e B hw fd_2_1.1 fd_2_1.2.1 fd_2_1.2.2.1 fd_2_1.2.2.2.1 fd_2_1.2.2.2.2 rfl tw_1_208 dX11_judge_95 ?_
              obtain ⟨rfl, rfl⟩ := so2 hf
              exact q_iret B hw hz hc0 hr hlk dX11_judge_98
          · have hf := (if_pos c15).symm.trans hf
            refine lv_iload hx hb dX11_judge_70 (lv_at hl 0 rfl) ?_
            refine lv_aload_n hx hb dX11_judge_72 rfl (lv_at hl 1 rfl) ?_
            obtain ⟨x24, e, hf⟩ := ob hf
            refine q_getIN e B hw fd_9_3.1 fd_9_3.2.1 fd_9_3.2.2.1 fd_9_3.2.2.2.1 fd_9_3.2.2.2.2 rfl tw_2_92 dX11_judge_73 ?_
            refine lv_icmp_ge (tgt := 84) hx hb dX11_judge_76 (by decide) (fun c25 => ?_) (fun c25 => ?_)
            · have hf := (if_pos c25).symm.trans hf
              refine lv_iconst (v := (-1)) hx hb dX11_judge_84 (by decide) ?_
              obtain ⟨rfl, rfl⟩ := so2 hf
              exact q_iret B hw hz hc0 hr hlk dX11_judge_85
            · have hf := (if_neg c25).symm.trans hf
              refine lv_iload hx hb dX11_judge_79 (lv_at hl 0 rfl) ?_
              refine lv_goto (tgt := 85) hx hb dX11_judge_81 (by decide) ?_
              obtain ⟨rfl, rfl⟩ := so2 hf
              exact q_iret B hw hz hc0 hr hlk dX11_judge_85
        · have hf := (if_pos c6).symm.trans hf
          refine lv_bipush (v := 6) hx hb dX11_judge_31 (by decide) ?_
          obtain ⟨x26, e, hf⟩ := ob hf
          refine q_callS (As := [.int 6]) (rest := []) (st1 := [.int x26]) (c_X11_refused G e) B hw hz hc0 my_X11_refused mv_X11_refused tw_2_155 ⟨Nat.le_of_ble_eq_true rfl, Nat.le_of_ble_eq_true rfl⟩ ⟨Nat.zero_le _, Nat.zero_le _⟩ rfl hl.1 rfl rfl (Nat.le_of_ble_eq_true rfl) dX11_judge_33 (fun H locs hw => ?_)
          obtain ⟨rfl, rfl⟩ := so2 hf
          exact q_iret B hw hz hc0 hr hlk dX11_judge_36
      · have hf := (if_neg c4).symm.trans hf
        exact w_X11_judge_19 G B hz hc0 hr hlk  h _ _ _ hw (lv_sub hl [] rfl) hf
/-! SecondLife.perform(I)I -/
def f_X11_perform (n : Nat) (z : Sh) (h : Hp) (v0 : Nat) (v1 : Int32) : Option (Int32 × Hp) :=
  if z.K v0 = 11 then
    (f_X11_trayAt z h v0 v1).bind fun o1 =>
    (match o1 with
    | none =>
      (f_X11_refused z h 2).bind fun x3 =>
      some (x3, h)
    | some a2 =>
      (gI z h 9 a2 1).bind fun x4 =>
      if x4 = 0 then
        (f_X11_refused z h 6).bind fun x18 =>
        some (x18, h)
      else
        (gR z h 11 v0 5).bind fun a6 =>
        (gR z h 11 v0 4).bind fun a7 =>
        (f_X5_copy z h a6 a7).bind fun h8 =>
        (gR z h8 11 v0 11).bind fun a9 =>
        (gR z h8 11 v0 3).bind fun a10 =>
        (gR z h8 11 v0 4).bind fun a11 =>
        (f_X2_doAll n z h8 a9 a10 a11 a2).bind fun (x12, h13) =>
        if x12 ≤ 0 then
          some (x12, h13)
        else
          (gR z h13 11 v0 6).bind fun a15 =>
          (gR z h13 11 v0 5).bind fun a16 =>
          (f_X4_keep z h13 a15 a16).bind fun h17 =>
          some (x12, h17))
  else none
theorem k_X11_perform {n : Nat} {z : Sh} {h : Hp} {v0 : Nat} {v1 : Int32} {w : Int32 × Hp} (hf : f_X11_perform n z h v0 v1 = some w) : z.K v0 = 11 := by
  unfold f_X11_perform at hf
  exact (if_some hf).1
set_option maxHeartbeats 4000000 in
theorem c_X11_perform {l : Launch} {s0 : State} {E : Ev} (G : Gl s0 E) {n : Nat} {z : Sh} {h : Hp} {v0 : Nat} {v1 : Int32} {r : Int32} {h' : Hp} (hf : f_X11_perform n z h v0 v1 = some (r, h')) : Ct l s0 E yX11_perform cX11_perform 4 (some .int) 6 147 [.ref v0, .int v1] z h h' (some (.int r)) := by
  refine Ct.of G (by decide) (Nat.le_of_ble_eq_true rfl) ?_
  intro p e s m below meth c ls B hw hz hc0 hr hlk hl
  have B : Bd p s0 s E m c cX11_perform 4 RX11 := B
  have hx := B.1
  have hb := B.2.1
  have hl : lv_has ls 4 [(0, .ref v0), (1, .int v1)] := hl
  unfold f_X11_perform at hf
  obtain ⟨_, hf⟩ := if_some hf
  refine lv_aload_n hx hb dX11_perform_0 rfl (lv_at hl 0 rfl) ?_
  refine lv_iload_n hx hb dX11_perform_1 rfl (lv_at hl 1 rfl) ?_
  obtain ⟨o1, e, hf⟩ := ob hf
  refine q_callV (As := [.int v1]) (rest := []) (st1 := [va_rf o1]) (c_X11_trayAt G e) B hw hz hc0 (k_X11_trayAt e) (by decide) (ci := 11) rfl rfl my_X11_trayAt mv_X11_trayAt tw_4_91 ⟨Nat.le_of_ble_eq_true rfl, Nat.le_of_ble_eq_true rfl⟩ ⟨Nat.zero_le _, Nat.zero_le _⟩ rfl hl.1 rfl rfl (Nat.le_of_ble_eq_true rfl) dX11_perform_2 (fun H locs hw => ?_)
  rcases o1 with _ | a2
  · refine lv_astore_nN (lv' := [(2, .null), (0, .ref v0), (1, .int v1)]) hx hb dX11_perform_5 rfl hl (by decide) rfl (fun ls hl => ?_)
    refine lv_aload_nN hx hb dX11_perform_6 rfl (lv_at hl 0 rfl) ?_
    refine lv_ifnonnullN hx hb dX11_perform_7 ?_
    refine lv_iconst (v := 2) hx hb dX11_perform_10 (by decide) ?_
    obtain ⟨x3, e, hf⟩ := ob hf
    refine q_callS (As := [.int 2]) (rest := []) (st1 := [.int x3]) (c_X11_refused G e) B hw hz hc0 my_X11_refused mv_X11_refused tw_2_155 ⟨Nat.le_of_ble_eq_true rfl, Nat.le_of_ble_eq_true rfl⟩ ⟨Nat.zero_le _, Nat.zero_le _⟩ rfl hl.1 rfl rfl (Nat.le_of_ble_eq_true rfl) dX11_perform_11 (fun H locs hw => ?_)
    obtain ⟨rfl, rfl⟩ := so2 hf
    exact q_iret B hw hz hc0 hr hlk dX11_perform_14
  · refine lv_astore_n (lv' := [(2, .ref a2), (0, .ref v0), (1, .int v1)]) hx hb dX11_perform_5 rfl hl (by decide) rfl (fun ls hl => ?_)
    refine lv_aload_n hx hb dX11_perform_6 rfl (lv_at hl 0 rfl) ?_
    refine lv_ifnonnull (tgt := 15) hx hb dX11_perform_7 (by decide) ?_
    refine lv_aload_n hx hb dX11_perform_15 rfl (lv_at hl 0 rfl) ?_
    obtain ⟨x4, e, hf⟩ := ob hf
    refine q_getIN e B hw fd_9_1.1 fd_9_1.2.1 fd_9_1.2.2.1 fd_9_1.2.2.2.1 fd_9_1.2.2.2.2 rfl tw_2_87 dX11_perform_16 ?_
    refine lv_if_ne (tgt := 28) hx hb dX11_perform_19 (by decide) (fun c5 => ?_) (fun c5 => ?_)
    · have hf := (if_neg c5).symm.trans hf
      refine lv_aload_n hx hb dX11_perform_28 rfl (lv_at hl 1 rfl) ?_
      obtain ⟨a6, e, hf⟩ := ob hf
      refine q_getR e B hw fd_11_5.1 fd_11_5.2.1 fd_11_5.2.2.1 fd_11_5.2.2.2.1 fd_11_5.2.2.2.2 rfl tw_2_107 dX11_perform_29 ?_
      refine lv_aload_n hx hb dX11_perform_32 rfl (lv_at hl 1 rfl) ?_
      obtain ⟨a7, e, hf⟩ := ob hf
      refine q_getR e B hw fd_11_4.1 fd_11_4.2.1 fd_11_4.2.2.1 fd_11_4.2.2.2.1 fd_11_4.2.2.2.2 rfl tw_2_106 dX11_perform_33 ?_
      obtain ⟨h8, e, hf⟩ := ob hf
      refine q_callVN (As := [.ref a7]) (rest := []) (st1 := []) (c_X5_copy G e) B hw hz hc0 (k_X5_copy e) (by decide) (ci := 5) rfl rfl my_X5_copy mv_X5_copy tw_4_25 ⟨Nat.le_of_ble_eq_true rfl, Nat.le_of_ble_eq_true rfl⟩ ⟨Nat.zero_le _, Nat.zero_le _⟩ rfl hl.1 rfl rfl (Nat.le_of_ble_eq_true rfl) dX11_perform_36 (fun H locs hw => ?_)
      refine lv_aload_n hx hb dX11_perform_39 rfl (lv_at hl 1 rfl) ?_
      obtain ⟨a9, e, hf⟩ := ob hf
      refine q_getR e B hw fd_11_11.1 fd_11_11.2.1 fd_11_11.2.2.1 fd_11_11.2.2.2.1 fd_11_11.2.2.2.2 rfl tw_2_113 dX11_perform_40 ?_
      refine lv_aload_n hx hb dX11_perform_43 rfl (lv_at hl 1 rfl) ?_
      obtain ⟨a10, e, hf⟩ := ob hf
      refine q_getR e B hw fd_11_3.1 fd_11_3.2.1 fd_11_3.2.2.1 fd_11_3.2.2.2.1 fd_11_3.2.2.2.2 rfl tw_2_105 dX11_perform_44 ?_
      refine lv_aload_n hx hb dX11_perform_47 rfl (lv_at hl 1 rfl) ?_
      obtain ⟨a11, e, hf⟩ := ob hf
      refine q_getR e B hw fd_11_4.1 fd_11_4.2.1 fd_11_4.2.2.1 fd_11_4.2.2.2.1 fd_11_4.2.2.2.2 rfl tw_2_106 dX11_perform_48 ?_
      refine lv_aload_n hx hb dX11_perform_51 rfl (lv_at hl 0 rfl) ?_
      obtain ⟨⟨x12, h13⟩, e, hf⟩ := ob hf
      refine q_callVN (As := [.ref a10, .ref a11, .ref a2]) (rest := []) (st1 := [.int x12]) (c_X2_doAll G e) B hw hz hc0 (k_X2_doAll e) (by decide) (ci := 2) rfl rfl my_X2_doAll mv_X2_doAll tw_4_95 ⟨Nat.le_of_ble_eq_true rfl, Nat.le_of_ble_eq_true rfl⟩ ⟨Nat.zero_le _, Nat.zero_le _⟩ rfl hl.1 rfl rfl (Nat.le_of_ble_eq_true rfl) dX11_perform_52 (fun H locs hw => ?_)
      refine lv_istore_n (lv' := [(3, .int x12), (2, .ref a2), (0, .ref v0), (1, .int v1)]) hx hb dX11_perform_55 rfl hl (by decide) rfl (fun ls hl => ?_)
      refine lv_iload_n hx hb dX11_perform_56 rfl (lv_at hl 0 rfl) ?_
      refine lv_if_le (tgt := 71) hx hb dX11_perform_57 (by decide) (fun c14 => ?_) (fun c14 => ?_)
      · have hf := (if_pos c14).symm.trans hf
        refine lv_iload_n hx hb dX11_perform_71 rfl (lv_at hl 0 rfl) ?_
        obtain ⟨rfl, rfl⟩ := so2 hf
        exact q_iret B hw hz hc0 hr hlk dX11_perform_72
      · have hf := (if_neg c14).symm.trans hf
        refine lv_aload_n hx hb dX11_perform_60 rfl (lv_at hl 2 rfl) ?_
        obtain ⟨a15, e, hf⟩ := ob hf
        refine q_getR e B hw fd_11_6.1 fd_11_6.2.1 fd_11_6.2.2.1 fd_11_6.2.2.2.1 fd_11_6.2.2.2.2 rfl tw_2_108 dX11_perform_61 ?_
        refine lv_aload_n hx hb dX11_perform_64 rfl (lv_at hl 2 rfl) ?_
        obtain ⟨a16, e, hf⟩ := ob hf
        refine q_getR e B hw fd_11_5.1 fd_11_5.2.1 fd_11_5.2.2.1 fd_11_5.2.2.2.1 fd_11_5.2.2.2.2 rfl tw_2_107 dX11_perform_65 ?_
        obtain ⟨h17, e, hf⟩ := ob hf
        refine q_callVN (As := [.ref a16]) (rest := []) (st1 := []) (c_X4_keep G e) B hw hz hc0 (k_X4_keep e) (by decide) (ci := 4) rfl rfl my_X4_keep mv_X4_keep tw_4_40 ⟨Nat.le_of_ble_eq_true rfl, Nat.le_of_ble_eq_true rfl⟩ ⟨Nat.zero_le _, Nat.zero_le _⟩ rfl hl.1 rfl rfl (Nat.le_of_ble_eq_true rfl) dX11_perform_68 (fun H locs hw => ?_)
        refine lv_iload_n hx hb dX11_perform_71 rfl (lv_at hl 0 rfl) ?_
        obtain ⟨rfl, rfl⟩ := so2 hf
        exact q_iret B hw hz hc0 hr hlk dX11_perform_72
    · have hf := (if_pos c5).symm.trans hf
      refine lv_bipush (v := 6) hx hb dX11_perform_22 (by decide) ?_
      obtain ⟨x18, e, hf⟩ := ob hf
      refine q_callS (As := [.int 6]) (rest := []) (st1 := [.int x18]) (c_X11_refused G e) B hw hz hc0 my_X11_refused mv_X11_refused tw_2_155 ⟨Nat.le_of_ble_eq_true rfl, Nat.le_of_ble_eq_true rfl⟩ ⟨Nat.zero_le _, Nat.zero_le _⟩ rfl hl.1 rfl rfl (Nat.le_of_ble_eq_true rfl) dX11_perform_24 (fun H locs hw => ?_)
      obtain ⟨rfl, rfl⟩ := so2 hf
      exact q_iret B hw hz hc0 hr hlk dX11_perform_27
/-! SecondLife.course(II)I -/
def f_X11_course (n : Nat) (z : Sh) (h : Hp) (v0 : Nat) (v1 : Int32) (v2 : Int32) : Option (Int32 × Hp × Sh) :=
  if z.K v0 = 11 then
    gd3 z <|
    (gR z h 11 v0 4).bind fun a1 =>
    (f_X5_has z h a1 v1).bind fun x2 =>
    if x2 = 0 then
      (f_X11_refused z h 2).bind fun x14 =>
      some (x14, h, z)
    else
      if 0 ≤ v2 then
        (gR z h 11 v0 12).bind fun a5 =>
        (gR z h 11 v0 3).bind fun a6 =>
        (gR z h 11 v0 4).bind fun a7 =>
        (f_X10_about n z h a5 a6 a7 v1).bind fun h8 =>
        (gR z h8 11 v0 13).bind fun a9 =>
        (f_X1_doingAt n z h8 a9 v2).bind fun (x10, h11, z12) =>
        gd3 z12 <|
        some (x10, h11, z12)
      else
        (f_X11_refused z h 3).bind fun x13 =>
        some (x13, h, z)
  else none
theorem k_X11_course {n : Nat} {z : Sh} {h : Hp} {v0 : Nat} {v1 : Int32} {v2 : Int32} {w : Int32 × Hp × Sh} (hf : f_X11_course n z h v0 v1 v2 = some w) : z.K v0 = 11 := by
  unfold f_X11_course at hf
  exact (if_some hf).1
theorem mo_X11_course {n : Nat} {z : Sh} {h : Hp} {v0 : Nat} {v1 : Int32} {v2 : Int32} {r : Int32} {h' : Hp} {zE : Sh} (hf : f_X11_course n z h v0 v1 v2 = some (r, h', zE)) : z.sz ≤ zE.sz ∧ z.sl ≤ zE.sl := by
  unfold f_X11_course at hf
  exact (gd3_some (if_some hf).2).1
set_option maxHeartbeats 4000000 in
theorem c_X11_course {l : Launch} {s0 : State} {E : Ev} (G : Gl s0 E) {n : Nat} {z : Sh} {h : Hp} {v0 : Nat} {v1 : Int32} {v2 : Int32} {r : Int32} {h' : Hp} {zE : Sh} (hf : f_X11_course n z h v0 v1 v2 = some (r, h', zE)) : Ca l s0 E yX11_course cX11_course 3 (some .int) 27 1351 [.ref v0, .int v1, .int v2] z zE h h' (some (.int r)) := by
  refine Ca.of G (by decide +kernel) (Nat.le_of_ble_eq_true rfl) (mo_X11_course hf) ?_
  intro p e s m below meth c ls B hw hM hr hlk hnm0 hl
  have B : Bd p s0 s E m c cX11_course 3 RX11 := B
  have hx := B.1
  have hb := B.2.1
  have hl : lv_has ls 3 [(0, .ref v0), (1, .int v1), (2, .int v2)] := hl
  unfold f_X11_course at hf
  obtain ⟨_, hf⟩ := if_some hf
  obtain ⟨_, hf⟩ := gd3_some hf
  refine lv_aload_n hx hb dX11_course_0 rfl (lv_at hl 0 rfl) ?_
  obtain ⟨a1, e, hf⟩ := ob hf
  refine q_getR e B hw fd_11_4.1 fd_11_4.2.1 fd_11_4.2.2.1 fd_11_4.2.2.2.1 fd_11_4.2.2.2.2 rfl tw_2_106 dX11_course_1 ?_
  refine lv_iload_n hx hb dX11_course_4 rfl (lv_at hl 1 rfl) ?_
  obtain ⟨x2, e, hf⟩ := ob hf
  refine q_callVN (As := [.int v1]) (rest := []) (st1 := [.int x2]) (c_X5_has G e) B hw hM.hz hM.hc0 (k_X5_has e) (by decide) (ci := 5) rfl rfl my_X5_has mv_X5_has tw_3_210 ⟨Nat.le_of_ble_eq_true rfl, Nat.le_of_ble_eq_true rfl⟩ hM.hcs rfl hl.1 rfl rfl (Nat.le_of_ble_eq_true rfl) dX11_course_5 (fun H locs hw => ?_)
  refine lv_if_ne (tgt := 16) hx hb dX11_course_8 (by decide) (fun c3 => ?_) (fun c3 => ?_)
  · have hf := (if_neg c3).symm.trans hf
    refine lv_iload_n hx hb dX11_course_16 rfl (lv_at hl 2 rfl) ?_
    refine lv_if_ge (tgt := 25) hx hb dX11_course_17 (by decide) (fun c4 => ?_) (fun c4 => ?_)
    · have hf := (if_pos c4).symm.trans hf
      refine lv_aload_n hx hb dX11_course_25 rfl (lv_at hl 0 rfl) ?_
      obtain ⟨a5, e, hf⟩ := ob hf
      refine q_getR e B hw fd_11_12.1 fd_11_12.2.1 fd_11_12.2.2.1 fd_11_12.2.2.2.1 fd_11_12.2.2.2.2 rfl tw_2_114 dX11_course_26 ?_
      refine lv_aload_n hx hb dX11_course_29 rfl (lv_at hl 0 rfl) ?_
      obtain ⟨a6, e, hf⟩ := ob hf
      refine q_getR e B hw fd_11_3.1 fd_11_3.2.1 fd_11_3.2.2.1 fd_11_3.2.2.2.1 fd_11_3.2.2.2.2 rfl tw_2_105 dX11_course_30 ?_
      refine lv_aload_n hx hb dX11_course_33 rfl (lv_at hl 0 rfl) ?_
      obtain ⟨a7, e, hf⟩ := ob hf
      refine q_getR e B hw fd_11_4.1 fd_11_4.2.1 fd_11_4.2.2.1 fd_11_4.2.2.2.1 fd_11_4.2.2.2.2 rfl tw_2_106 dX11_course_34 ?_
      refine lv_iload_n hx hb dX11_course_37 rfl (lv_at hl 1 rfl) ?_
      obtain ⟨h8, e, hf⟩ := ob hf
      refine q_callVN (As := [.ref a6, .ref a7, .int v1]) (rest := []) (st1 := []) (c_X10_about G e) B hw hM.hz hM.hc0 (k_X10_about e) (by decide) (ci := 10) rfl rfl my_X10_about mv_X10_about tw_4_153 ⟨Nat.le_of_ble_eq_true rfl, Nat.le_of_ble_eq_true rfl⟩ hM.hcs rfl hl.1 rfl rfl (Nat.le_of_ble_eq_true rfl) dX11_course_38 (fun H locs hw => ?_)
      refine lv_aload_n hx hb dX11_course_41 rfl (lv_at hl 0 rfl) ?_
      obtain ⟨a9, e, hf⟩ := ob hf
      refine q_getR e B hw fd_11_13.1 fd_11_13.2.1 fd_11_13.2.2.1 fd_11_13.2.2.2.1 fd_11_13.2.2.2.2 rfl tw_2_115 dX11_course_42 ?_
      refine lv_iload_n hx hb dX11_course_45 rfl (lv_at hl 2 rfl) ?_
      obtain ⟨⟨x10, h11, z12⟩, e, hf⟩ := ob hf
      obtain ⟨hg, hf⟩ := gd3_some hf
      refine q_callVNA (As := [.int v2]) (rest := []) (st1 := [.int x10]) (c_X1_doingAt G e) (mo_X1_doingAt e) hg B hw hM (k_X1_doingAt e) (by decide) (ci := 1) rfl rfl my_X1_doingAt mv_X1_doingAt tw_4_232 ⟨Nat.le_of_ble_eq_true rfl, Nat.le_of_ble_eq_true rfl⟩ rfl hl.1 rfl rfl (Nat.le_of_ble_eq_true rfl) dX11_course_46 (fun H locs hw hM => ?_)
      obtain ⟨rfl, rfl, rfl⟩ := so3 hf
      exact q_iret B hw hM.hz hM.hc0 hr hlk dX11_course_49
    · have hf := (if_neg c4).symm.trans hf
      refine lv_iconst (v := 3) hx hb dX11_course_20 (by decide) ?_
      obtain ⟨x13, e, hf⟩ := ob hf
      refine q_callS (As := [.int 3]) (rest := []) (st1 := [.int x13]) (c_X11_refused G e) B hw hM.hz hM.hc0 my_X11_refused mv_X11_refused tw_2_155 ⟨Nat.le_of_ble_eq_true rfl, Nat.le_of_ble_eq_true rfl⟩ hM.hcs rfl hl.1 rfl rfl (Nat.le_of_ble_eq_true rfl) dX11_course_21 (fun H locs hw => ?_)
      obtain ⟨rfl, rfl, rfl⟩ := so3 hf
      exact q_iret B hw hM.hz hM.hc0 hr hlk dX11_course_24
  · have hf := (if_pos c3).symm.trans hf
    refine lv_iconst (v := 2) hx hb dX11_course_11 (by decide) ?_
    obtain ⟨x14, e, hf⟩ := ob hf
    refine q_callS (As := [.int 2]) (rest := []) (st1 := [.int x14]) (c_X11_refused G e) B hw hM.hz hM.hc0 my_X11_refused mv_X11_refused tw_2_155 ⟨Nat.le_of_ble_eq_true rfl, Nat.le_of_ble_eq_true rfl⟩ hM.hcs rfl hl.1 rfl rfl (Nat.le_of_ble_eq_true rfl) dX11_course_12 (fun H locs hw => ?_)
    obtain ⟨rfl, rfl, rfl⟩ := so3 hf
    exact q_iret B hw hM.hz hM.hc0 hr hlk dX11_course_15
/-! SecondLife.drawsAt(I)I -/
def f_X11_drawsAt (n : Nat) (z : Sh) (h : Hp) (v0 : Nat) (v1 : Int32) : Option (Int32 × Hp × Sh) :=
  if z.K v0 = 11 then
    gd3 z <|
    (gR z h 11 v0 4).bind fun a1 =>
    (f_X5_has z h a1 v1).bind fun x2 =>
    if x2 = 0 then
      (f_X11_refused z h 2).bind fun x12 =>
      some (x12, h, z)
    else
      (gR z h 11 v0 12).bind fun a4 =>
      (gR z h 11 v0 3).bind fun a5 =>
      (gR z h 11 v0 4).bind fun a6 =>
      (f_X10_about n z h a4 a5 a6 v1).bind fun h7 =>
      (gR z h7 11 v0 13).bind fun a8 =>
      (f_X1_drawingYear n z h7 a8).bind fun (x9, h10, z11) =>
      gd3 z11 <|
      some (x9, h10, z11)
  else none
theorem k_X11_drawsAt {n : Nat} {z : Sh} {h : Hp} {v0 : Nat} {v1 : Int32} {w : Int32 × Hp × Sh} (hf : f_X11_drawsAt n z h v0 v1 = some w) : z.K v0 = 11 := by
  unfold f_X11_drawsAt at hf
  exact (if_some hf).1
theorem mo_X11_drawsAt {n : Nat} {z : Sh} {h : Hp} {v0 : Nat} {v1 : Int32} {r : Int32} {h' : Hp} {zE : Sh} (hf : f_X11_drawsAt n z h v0 v1 = some (r, h', zE)) : z.sz ≤ zE.sz ∧ z.sl ≤ zE.sl := by
  unfold f_X11_drawsAt at hf
  exact (gd3_some (if_some hf).2).1
set_option maxHeartbeats 4000000 in
theorem c_X11_drawsAt {l : Launch} {s0 : State} {E : Ev} (G : Gl s0 E) {n : Nat} {z : Sh} {h : Hp} {v0 : Nat} {v1 : Int32} {r : Int32} {h' : Hp} {zE : Sh} (hf : f_X11_drawsAt n z h v0 v1 = some (r, h', zE)) : Ca l s0 E yX11_drawsAt cX11_drawsAt 2 (some .int) 27 1350 [.ref v0, .int v1] z zE h h' (some (.int r)) := by
  refine Ca.of G (by decide +kernel) (Nat.le_of_ble_eq_true rfl) (mo_X11_drawsAt hf) ?_
  intro p e s m below meth c ls B hw hM hr hlk hnm0 hl
  have B : Bd p s0 s E m c cX11_drawsAt 2 RX11 := B
  have hx := B.1
  have hb := B.2.1
  have hl : lv_has ls 2 [(0, .ref v0), (1, .int v1)] := hl
  unfold f_X11_drawsAt at hf
  obtain ⟨_, hf⟩ := if_some hf
  obtain ⟨_, hf⟩ := gd3_some hf
  refine lv_aload_n hx hb dX11_drawsAt_0 rfl (lv_at hl 0 rfl) ?_
  obtain ⟨a1, e, hf⟩ := ob hf
  refine q_getR e B hw fd_11_4.1 fd_11_4.2.1 fd_11_4.2.2.1 fd_11_4.2.2.2.1 fd_11_4.2.2.2.2 rfl tw_2_106 dX11_drawsAt_1 ?_
  refine lv_iload_n hx hb dX11_drawsAt_4 rfl (lv_at hl 1 rfl) ?_
  obtain ⟨x2, e, hf⟩ := ob hf
  refine q_callVN (As := [.int v1]) (rest := []) (st1 := [.int x2]) (c_X5_has G e) B hw hM.hz hM.hc0 (k_X5_has e) (by decide) (ci := 5) rfl rfl my_X5_has mv_X5_has tw_3_210 ⟨Nat.le_of_ble_eq_true rfl, Nat.le_of_ble_eq_true rfl⟩ hM.hcs rfl hl.1 rfl rfl (Nat.le_of_ble_eq_true rfl) dX11_drawsAt_5 (fun H locs hw => ?_)
  refine lv_if_ne (tgt := 16) hx hb dX11_drawsAt_8 (by decide) (fun c3 => ?_) (fun c3 => ?_)
  · have hf := (if_neg c3).symm.trans hf
    refine lv_aload_n hx hb dX11_drawsAt_16 rfl (lv_at hl 0 rfl) ?_
    obtain ⟨a4, e, hf⟩ := ob hf
    refine q_getR e B hw fd_11_12.1 fd_11_12.2.1 fd_11_12.2.2.1 fd_11_12.2.2.2.1 fd_11_12.2.2.2.2 rfl tw_2_114 dX11_drawsAt_17 ?_
    refine lv_aload_n hx hb dX11_drawsAt_20 rfl (lv_at hl 0 rfl) ?_
    obtain ⟨a5, e, hf⟩ := ob hf
    refine q_getR e B hw fd_11_3.1 fd_11_3.2.1 fd_11_3.2.2.1 fd_11_3.2.2.2.1 fd_11_3.2.2.2.2 rfl tw_2_105 dX11_drawsAt_21 ?_
    refine lv_aload_n hx hb dX11_drawsAt_24 rfl (lv_at hl 0 rfl) ?_
    obtain ⟨a6, e, hf⟩ := ob hf
    refine q_getR e B hw fd_11_4.1 fd_11_4.2.1 fd_11_4.2.2.1 fd_11_4.2.2.2.1 fd_11_4.2.2.2.2 rfl tw_2_106 dX11_drawsAt_25 ?_
    refine lv_iload_n hx hb dX11_drawsAt_28 rfl (lv_at hl 1 rfl) ?_
    obtain ⟨h7, e, hf⟩ := ob hf
    refine q_callVN (As := [.ref a5, .ref a6, .int v1]) (rest := []) (st1 := []) (c_X10_about G e) B hw hM.hz hM.hc0 (k_X10_about e) (by decide) (ci := 10) rfl rfl my_X10_about mv_X10_about tw_4_153 ⟨Nat.le_of_ble_eq_true rfl, Nat.le_of_ble_eq_true rfl⟩ hM.hcs rfl hl.1 rfl rfl (Nat.le_of_ble_eq_true rfl) dX11_drawsAt_29 (fun H locs hw => ?_)
    refine lv_aload_n hx hb dX11_drawsAt_32 rfl (lv_at hl 0 rfl) ?_
    obtain ⟨a8, e, hf⟩ := ob hf
    refine q_getR e B hw fd_11_13.1 fd_11_13.2.1 fd_11_13.2.2.1 fd_11_13.2.2.2.1 fd_11_13.2.2.2.2 rfl tw_2_115 dX11_drawsAt_33 ?_
    obtain ⟨⟨x9, h10, z11⟩, e, hf⟩ := ob hf
    obtain ⟨hg, hf⟩ := gd3_some hf
    refine q_callVNA (As := []) (rest := []) (st1 := [.int x9]) (c_X1_drawingYear G e) (mo_X1_drawingYear e) hg B hw hM (k_X1_drawingYear e) (by decide) (ci := 1) rfl rfl my_X1_drawingYear mv_X1_drawingYear tw_5_7 ⟨Nat.le_of_ble_eq_true rfl, Nat.le_of_ble_eq_true rfl⟩ rfl hl.1 rfl rfl (Nat.le_of_ble_eq_true rfl) dX11_drawsAt_36 (fun H locs hw hM => ?_)
    obtain ⟨rfl, rfl, rfl⟩ := so3 hf
    exact q_iret B hw hM.hz hM.hc0 hr hlk dX11_drawsAt_39
  · have hf := (if_pos c3).symm.trans hf
    refine lv_iconst (v := 2) hx hb dX11_drawsAt_11 (by decide) ?_
    obtain ⟨x12, e, hf⟩ := ob hf
    refine q_callS (As := [.int 2]) (rest := []) (st1 := [.int x12]) (c_X11_refused G e) B hw hM.hz hM.hc0 my_X11_refused mv_X11_refused tw_2_155 ⟨Nat.le_of_ble_eq_true rfl, Nat.le_of_ble_eq_true rfl⟩ hM.hcs rfl hl.1 rfl rfl (Nat.le_of_ble_eq_true rfl) dX11_drawsAt_12 (fun H locs hw => ?_)
    obtain ⟨rfl, rfl, rfl⟩ := so3 hf
    exact q_iret B hw hM.hz hM.hc0 hr hlk dX11_drawsAt_15
/-! SecondLife.soonest(II)I -/
def f_X11_soonest (n : Nat) (z : Sh) (h : Hp) (v0 : Nat) (v1 : Int32) (v2 : Int32) : Option (Int32 × Hp × Sh) :=
  if z.K v0 = 11 then
    gd3 z <|
    (gR z h 11 v0 4).bind fun a1 =>
    (f_X5_has z h a1 v1).bind fun x2 =>
    if x2 = 0 then
      (f_X11_refused z h 2).bind fun x14 =>
      some (x14, h, z)
    else
      (gR z h 11 v0 12).bind fun a4 =>
      (gR z h 11 v0 3).bind fun a5 =>
      (gR z h 11 v0 4).bind fun a6 =>
      (f_X10_about n z h a4 a5 a6 v1).bind fun h7 =>
      (gR z h7 11 v0 13).bind fun a8 =>
      (gR z h7 11 v0 4).bind fun a9 =>
      (f_X5_part z h7 a9 v1 2).bind fun x10 =>
      (f_X1_fewestFor n z h7 a8 ((Int32.toInt64 v2) - (Int32.toInt64 x10))).bind fun (x11, h12, z13) =>
      gd3 z13 <|
      some (x11, h12, z13)
  else none
theorem k_X11_soonest {n : Nat} {z : Sh} {h : Hp} {v0 : Nat} {v1 : Int32} {v2 : Int32} {w : Int32 × Hp × Sh} (hf : f_X11_soonest n z h v0 v1 v2 = some w) : z.K v0 = 11 := by
  unfold f_X11_soonest at hf
  exact (if_some hf).1
theorem mo_X11_soonest {n : Nat} {z : Sh} {h : Hp} {v0 : Nat} {v1 : Int32} {v2 : Int32} {r : Int32} {h' : Hp} {zE : Sh} (hf : f_X11_soonest n z h v0 v1 v2 = some (r, h', zE)) : z.sz ≤ zE.sz ∧ z.sl ≤ zE.sl := by
  unfold f_X11_soonest at hf
  exact (gd3_some (if_some hf).2).1
set_option maxHeartbeats 4000000 in
theorem c_X11_soonest {l : Launch} {s0 : State} {E : Ev} (G : Gl s0 E) {n : Nat} {z : Sh} {h : Hp} {v0 : Nat} {v1 : Int32} {v2 : Int32} {r : Int32} {h' : Hp} {zE : Sh} (hf : f_X11_soonest n z h v0 v1 v2 = some (r, h', zE)) : Ca l s0 E yX11_soonest cX11_soonest 3 (some .int) 5 124 [.ref v0, .int v1, .int v2] z zE h h' (some (.int r)) := by
  refine Ca.of G (by decide +kernel) (Nat.le_of_ble_eq_true rfl) (mo_X11_soonest hf) ?_
  intro p e s m below meth c ls B hw hM hr hlk hnm0 hl
  have B : Bd p s0 s E m c cX11_soonest 3 RX11 := B
  have hx := B.1
  have hb := B.2.1
  have hl : lv_has ls 3 [(0, .ref v0), (1, .int v1), (2, .int v2)] := hl
  unfold f_X11_soonest at hf
  obtain ⟨_, hf⟩ := if_some hf
  obtain ⟨_, hf⟩ := gd3_some hf
  refine lv_aload_n hx hb dX11_soonest_0 rfl (lv_at hl 0 rfl) ?_
  obtain ⟨a1, e, hf⟩ := ob hf
  refine q_getR e B hw fd_11_4.1 fd_11_4.2.1 fd_11_4.2.2.1 fd_11_4.2.2.2.1 fd_11_4.2.2.2.2 rfl tw_2_106 dX11_soonest_1 ?_
  refine lv_iload_n hx hb dX11_soonest_4 rfl (lv_at hl 1 rfl) ?_
  obtain ⟨x2, e, hf⟩ := ob hf
  refine q_callVN (As := [.int v1]) (rest := []) (st1 := [.int x2]) (c_X5_has G e) B hw hM.hz hM.hc0 (k_X5_has e) (by decide) (ci := 5) rfl rfl my_X5_has mv_X5_has tw_3_210 ⟨Nat.le_of_ble_eq_true rfl, Nat.le_of_ble_eq_true rfl⟩ hM.hcs rfl hl.1 rfl rfl (Nat.le_of_ble_eq_true rfl) dX11_soonest_5 (fun H locs hw => ?_)
  refine lv_if_ne (tgt := 16) hx hb dX11_soonest_8 (by decide) (fun c3 => ?_) (fun c3 => ?_)
  · have hf := (if_neg c3).symm.trans hf
    refine lv_aload_n hx hb dX11_soonest_16 rfl (lv_at hl 0 rfl) ?_
    obtain ⟨a4, e, hf⟩ := ob hf
    refine q_getR e B hw fd_11_12.1 fd_11_12.2.1 fd_11_12.2.2.1 fd_11_12.2.2.2.1 fd_11_12.2.2.2.2 rfl tw_2_114 dX11_soonest_17 ?_
    refine lv_aload_n hx hb dX11_soonest_20 rfl (lv_at hl 0 rfl) ?_
    obtain ⟨a5, e, hf⟩ := ob hf
    refine q_getR e B hw fd_11_3.1 fd_11_3.2.1 fd_11_3.2.2.1 fd_11_3.2.2.2.1 fd_11_3.2.2.2.2 rfl tw_2_105 dX11_soonest_21 ?_
    refine lv_aload_n hx hb dX11_soonest_24 rfl (lv_at hl 0 rfl) ?_
    obtain ⟨a6, e, hf⟩ := ob hf
    refine q_getR e B hw fd_11_4.1 fd_11_4.2.1 fd_11_4.2.2.1 fd_11_4.2.2.2.1 fd_11_4.2.2.2.2 rfl tw_2_106 dX11_soonest_25 ?_
    refine lv_iload_n hx hb dX11_soonest_28 rfl (lv_at hl 1 rfl) ?_
    obtain ⟨h7, e, hf⟩ := ob hf
    refine q_callVN (As := [.ref a5, .ref a6, .int v1]) (rest := []) (st1 := []) (c_X10_about G e) B hw hM.hz hM.hc0 (k_X10_about e) (by decide) (ci := 10) rfl rfl my_X10_about mv_X10_about tw_4_153 ⟨Nat.le_of_ble_eq_true rfl, Nat.le_of_ble_eq_true rfl⟩ hM.hcs rfl hl.1 rfl rfl (Nat.le_of_ble_eq_true rfl) dX11_soonest_29 (fun H locs hw => ?_)
    refine lv_aload_n hx hb dX11_soonest_32 rfl (lv_at hl 0 rfl) ?_
    obtain ⟨a8, e, hf⟩ := ob hf
    refine q_getR e B hw fd_11_13.1 fd_11_13.2.1 fd_11_13.2.2.1 fd_11_13.2.2.2.1 fd_11_13.2.2.2.2 rfl tw_2_115 dX11_soonest_33 ?_
    refine lv_iload_n hx hb dX11_soonest_36 rfl (lv_at hl 2 rfl) ?_
    refine lv_i2l (v := (Int32.toInt64 v2)) hx hb dX11_soonest_37 rfl ?_
    refine lv_aload_n hx hb dX11_soonest_38 rfl (lv_at hl 0 rfl) ?_
    obtain ⟨a9, e, hf⟩ := ob hf
    refine q_getR e B hw fd_11_4.1 fd_11_4.2.1 fd_11_4.2.2.1 fd_11_4.2.2.2.1 fd_11_4.2.2.2.2 rfl tw_2_106 dX11_soonest_39 ?_
    refine lv_iload_n hx hb dX11_soonest_42 rfl (lv_at hl 1 rfl) ?_
    refine lv_iconst (v := 2) hx hb dX11_soonest_43 (by decide) ?_
    obtain ⟨x10, e, hf⟩ := ob hf
    refine q_callVN (As := [.int v1, .int 2]) (rest := [.long (Int32.toInt64 v2), .ref a8]) (st1 := [.int x10, .long (Int32.toInt64 v2), .ref a8]) (c_X5_part G e) B hw hM.hz hM.hc0 (k_X5_part e) (by decide) (ci := 5) rfl rfl my_X5_part mv_X5_part tw_3_214 ⟨Nat.le_of_ble_eq_true rfl, Nat.le_of_ble_eq_true rfl⟩ hM.hcs rfl hl.1 rfl rfl (Nat.le_of_ble_eq_true rfl) dX11_soonest_44 (fun H locs hw => ?_)
    refine lv_i2l (v := (Int32.toInt64 x10)) hx hb dX11_soonest_47 rfl ?_
    refine lv_lsub hx hb dX11_soonest_48 ?_
    obtain ⟨⟨x11, h12, z13⟩, e, hf⟩ := ob hf
    obtain ⟨hg, hf⟩ := gd3_some hf
    refine q_callVNA (As := [.long ((Int32.toInt64 v2) - (Int32.toInt64 x10))]) (rest := []) (st1 := [.int x11]) (c_X1_fewestFor G e) (mo_X1_fewestFor e) hg B hw hM (k_X1_fewestFor e) (by decide) (ci := 1) rfl rfl my_X1_fewestFor mv_X1_fewestFor tw_5_30 ⟨Nat.le_of_ble_eq_true rfl, Nat.le_of_ble_eq_true rfl⟩ rfl hl.1 rfl rfl (Nat.le_of_ble_eq_true rfl) dX11_soonest_49 (fun H locs hw hM => ?_)
    obtain ⟨rfl, rfl, rfl⟩ := so3 hf
    exact q_iret B hw hM.hz hM.hc0 hr hlk dX11_soonest_52
  · have hf := (if_pos c3).symm.trans hf
    refine lv_iconst (v := 2) hx hb dX11_soonest_11 (by decide) ?_
    obtain ⟨x14, e, hf⟩ := ob hf
    refine q_callS (As := [.int 2]) (rest := []) (st1 := [.int x14]) (c_X11_refused G e) B hw hM.hz hM.hc0 my_X11_refused mv_X11_refused tw_2_155 ⟨Nat.le_of_ble_eq_true rfl, Nat.le_of_ble_eq_true rfl⟩ hM.hcs rfl hl.1 rfl rfl (Nat.le_of_ble_eq_true rfl) dX11_soonest_12 (fun H locs hw => ?_)
    obtain ⟨rfl, rfl, rfl⟩ := so3 hf
    exact q_iret B hw hM.hz hM.hc0 hr hlk dX11_soonest_15
/-! SecondLife.mean(II)J -/
def f_X11_mean_20 (n : Nat)  (z : Sh) (h : Hp) : Option (Int64 × Hp × Sh) :=
  (f_X11_refused z h 2).bind fun x1 =>
  some ((Int32.toInt64 x1), h, z)
def f_X11_mean (n : Nat) (z : Sh) (h : Hp) (v0 : Nat) (v1 : Int32) (v2 : Int32) : Option (Int64 × Hp × Sh) :=
  if z.K v0 = 11 then
    gd3 z <|
    (gR z h 11 v0 4).bind fun a1 =>
    (f_X5_has z h a1 v1).bind fun x2 =>
    if x2 = 0 then
      f_X11_mean_20 n z h
    else
      if v2 < 0 then
        f_X11_mean_20 n z h
      else
        if v2 ≤ 1 then
          (gR z h 11 v0 12).bind fun a6 =>
          (gR z h 11 v0 3).bind fun a7 =>
          (gR z h 11 v0 4).bind fun a8 =>
          (f_X10_about n z h a6 a7 a8 v1).bind fun h9 =>
          (gR z h9 11 v0 14).bind fun a10 =>
          (gR z h9 11 v0 14).bind fun a11 =>
          (gR z h9 11 v0 12).bind fun a12 =>
          (gI z h9 10 a12 8).bind fun x13 =>
          (f_X0_meanFrom n z h9 a11 x13).bind fun (x14, h15, z16) =>
          gd3 z16 <|
          (f_X0_fraction n z16 h15 a10 x14 v2).bind fun x17 =>
          some (x17, h15, z16)
        else
          f_X11_mean_20 n z h
  else none
theorem k_X11_mean {n : Nat} {z : Sh} {h : Hp} {v0 : Nat} {v1 : Int32} {v2 : Int32} {w : Int64 × Hp × Sh} (hf : f_X11_mean n z h v0 v1 v2 = some w) : z.K v0 = 11 := by
  unfold f_X11_mean at hf
  exact (if_some hf).1
theorem mo_X11_mean {n : Nat} {z : Sh} {h : Hp} {v0 : Nat} {v1 : Int32} {v2 : Int32} {r : Int64} {h' : Hp} {zE : Sh} (hf : f_X11_mean n z h v0 v1 v2 = some (r, h', zE)) : z.sz ≤ zE.sz ∧ z.sl ≤ zE.sl := by
  unfold f_X11_mean at hf
  exact (gd3_some (if_some hf).2).1
set_option maxHeartbeats 4000000 in
theorem w_X11_mean_20 {p : Program} {l : Launch} {e : Env} {s : State} {m : MethodId} {args : Array Value} {below : List Frame} {meth : Method} {c : Code} {s0 : State} {E : Ev} {z0 : Sh} {n : Nat} {r : Int64} {h' : Hp} {zE : Sh} (G : Gl s0 E) (B : Bd p s0 s E m c cX11_mean 3 RX11) (hr : meth.sig.returnType = (some .long)) (hlk : meth.locks = false) : ∀ (z : Sh) (h : Hp) (H : Heap) (locs : List Loc) (ls : Array Slot), Pw s0 s E z h H locs → Mo s0 s z0 z zE → lv_has ls 3 [] → f_X11_mean_20 n z h = some (r, h', zE) → W p l e (rmA 66 3724 z0 zE) s m args below meth c H locs (z.sz - z0.sz) (z.sl - z0.sl) (Zt below s0 E zE h' (some (.long r)) args s (zE.sz - z0.sz) (zE.sl - z0.sl)) (F0 m 20 ls []) := by
  have hx := B.1
  have hb := B.2.1
  intro z h H locs ls hw hM hl hf
  unfold f_X11_mean_20 at hf
  refine lv_iconst (v := 2) hx hb dX11_mean_20 (by decide) ?_
  obtain ⟨x1, e, hf⟩ := ob hf
  refine q_callS (As := [.int 2]) (rest := []) (st1 := [.int x1]) (c_X11_refused G e) B hw hM.hz hM.hc0 my_X11_refused mv_X11_refused tw_2_155 ⟨Nat.le_of_ble_eq_true rfl, Nat.le_of_ble_eq_true rfl⟩ hM.hcs rfl hl.1 rfl rfl (Nat.le_of_ble_eq_true rfl) dX11_mean_21 (fun H locs hw => ?_)
  refine lv_i2l (v := (Int32.toInt64 x1)) hx hb dX11_mean_24 rfl ?_
  obtain ⟨rfl, rfl, rfl⟩ := so3 hf
  exact q_lret B hw hM.hz hM.hc0 hr hlk dX11_mean_25
set_option maxHeartbeats 4000000 in
theorem c_X11_mean {l : Launch} {s0 : State} {E : Ev} (G : Gl s0 E) {n : Nat} {z : Sh} {h : Hp} {v0 : Nat} {v1 : Int32} {v2 : Int32} {r : Int64} {h' : Hp} {zE : Sh} (hf : f_X11_mean n z h v0 v1 v2 = some (r, h', zE)) : Ca l s0 E yX11_mean cX11_mean 3 (some .long) 66 3724 [.ref v0, .int v1, .int v2] z zE h h' (some (.long r)) := by
  refine Ca.of G (by decide +kernel) (Nat.le_of_ble_eq_true rfl) (mo_X11_mean hf) ?_
  intro p e s m below meth c ls B hw hM hr hlk hnm0 hl
  have B : Bd p s0 s E m c cX11_mean 3 RX11 := B
  have hx := B.1
  have hb := B.2.1
  have hl : lv_has ls 3 [(0, .ref v0), (1, .int v1), (2, .int v2)] := hl
  unfold f_X11_mean at hf
  obtain ⟨_, hf⟩ := if_some hf
  obtain ⟨_, hf⟩ := gd3_some hf
  refine lv_aload_n hx hb dX11_mean_0 rfl (lv_at hl 0 rfl) ?_
  obtain ⟨a1, e, hf⟩ := ob hf
  refine q_getR e B hw fd_11_4.1 fd_11_4.2.1 fd_11_4.2.2.1 fd_11_4.2.2.2.1 fd_11_4.2.2.2.2 rfl tw_2_106 dX11_mean_1 ?_
  refine lv_iload_n hx hb dX11_mean_4 rfl (lv_at hl 1 rfl) ?_
  obtain ⟨x2, e, hf⟩ := ob hf
  refine q_callVN (As := [.int v1]) (rest := []) (st1 := [.int x2]) (c_X5_has G e) B hw hM.hz hM.hc0 (k_X5_has e) (by decide) (ci := 5) rfl rfl my_X5_has mv_X5_has tw_3_210 ⟨Nat.le_of_ble_eq_true rfl, Nat.le_of_ble_eq_true rfl⟩ hM.hcs rfl hl.1 rfl rfl (Nat.le_of_ble_eq_true rfl) dX11_mean_5 (fun H locs hw => ?_)
  refine lv_if_eq (tgt := 20) hx hb dX11_mean_8 (by decide) (fun c3 => ?_) (fun c3 => ?_)
  · have hf := (if_pos c3).symm.trans hf
    exact w_X11_mean_20 G B hr hlk  z h _ _ _ hw hM (lv_sub hl [] rfl) hf
  · have hf := (if_neg c3).symm.trans hf
    refine lv_iload_n hx hb dX11_mean_11 rfl (lv_at hl 2 rfl) ?_
    refine lv_if_lt (tgt := 20) hx hb dX11_mean_12 (by decide) (fun c4 => ?_) (fun c4 => ?_)
    · have hf := (if_pos c4).symm.trans hf
      exact w_X11_mean_20 G B hr hlk  z h _ _ _ hw hM (lv_sub hl [] rfl) hf
    · have hf := (if_neg c4).symm.trans hf
      refine lv_iload_n hx hb dX11_mean_15 rfl (lv_at hl 2 rfl) ?_
      refine lv_iconst (v := 1) hx hb dX11_mean_16 (by decide) ?_
      refine lv_icmp_le (tgt := 26) hx hb dX11_mean_17 (by decide) (fun c5 => ?_) (fun c5 => ?_)
      · have hf := (if_pos c5).symm.trans hf
        refine lv_aload_n hx hb dX11_mean_26 rfl (lv_at hl 0 rfl) ?_
        obtain ⟨a6, e, hf⟩ := ob hf
        refine q_getR e B hw fd_11_12.1 fd_11_12.2.1 fd_11_12.2.2.1 fd_11_12.2.2.2.1 fd_11_12.2.2.2.2 rfl tw_2_114 dX11_mean_27 ?_
        refine lv_aload_n hx hb dX11_mean_30 rfl (lv_at hl 0 rfl) ?_
        obtain ⟨a7, e, hf⟩ := ob hf
        refine q_getR e B hw fd_11_3.1 fd_11_3.2.1 fd_11_3.2.2.1 fd_11_3.2.2.2.1 fd_11_3.2.2.2.2 rfl tw_2_105 dX11_mean_31 ?_
        refine lv_aload_n hx hb dX11_mean_34 rfl (lv_at hl 0 rfl) ?_
        obtain ⟨a8, e, hf⟩ := ob hf
        refine q_getR e B hw fd_11_4.1 fd_11_4.2.1 fd_11_4.2.2.1 fd_11_4.2.2.2.1 fd_11_4.2.2.2.2 rfl tw_2_106 dX11_mean_35 ?_
        refine lv_iload_n hx hb dX11_mean_38 rfl (lv_at hl 1 rfl) ?_
        obtain ⟨h9, e, hf⟩ := ob hf
        refine q_callVN (As := [.ref a7, .ref a8, .int v1]) (rest := []) (st1 := []) (c_X10_about G e) B hw hM.hz hM.hc0 (k_X10_about e) (by decide) (ci := 10) rfl rfl my_X10_about mv_X10_about tw_4_153 ⟨Nat.le_of_ble_eq_true rfl, Nat.le_of_ble_eq_true rfl⟩ hM.hcs rfl hl.1 rfl rfl (Nat.le_of_ble_eq_true rfl) dX11_mean_39 (fun H locs hw => ?_)
        refine lv_aload_n hx hb dX11_mean_42 rfl (lv_at hl 0 rfl) ?_
        obtain ⟨a10, e, hf⟩ := ob hf
        refine q_getR e B hw fd_11_14.1 fd_11_14.2.1 fd_11_14.2.2.1 fd_11_14.2.2.2.1 fd_11_14.2.2.2.2 rfl tw_2_116 dX11_mean_43 ?_
        refine lv_aload_n hx hb dX11_mean_46 rfl (lv_at hl 0 rfl) ?_
        obtain ⟨a11, e, hf⟩ := ob hf
        refine q_getR e B hw fd_11_14.1 fd_11_14.2.1 fd_11_14.2.2.1 fd_11_14.2.2.2.1 fd_11_14.2.2.2.2 rfl tw_2_116 dX11_mean_47 ?_
        refine lv_aload_n hx hb dX11_mean_50 rfl (lv_at hl 0 rfl) ?_
        obtain ⟨a12, e, hf⟩ := ob hf
        refine q_getR e B hw fd_11_12.1 fd_11_12.2.1 fd_11_12.2.2.1 fd_11_12.2.2.2.1 fd_11_12.2.2.2.2 rfl tw_2_114 dX11_mean_51 ?_
        obtain ⟨x13, e, hf⟩ := ob hf
        refine q_getIN e B hw fd_10_8.1 fd_10_8.2.1 fd_10_8.2.2.1 fd_10_8.2.2.2.1 fd_10_8.2.2.2.2 rfl tw_2_3 dX11_mean_54 ?_
        obtain ⟨⟨x14, h15, z16⟩, e, hf⟩ := ob hf
        obtain ⟨hg, hf⟩ := gd3_some hf
        refine q_callVNA (As := [.int x13]) (rest := [.ref a10]) (st1 := [.long x14, .ref a10]) (c_X0_meanFrom G e) (mo_X0_meanFrom e) hg B hw hM (k_X0_meanFrom e) (by decide) (ci := 0) rfl rfl my_X0_meanFrom mv_X0_meanFrom tw_5_46 ⟨Nat.le_of_ble_eq_true rfl, Nat.le_of_ble_eq_true rfl⟩ rfl hl.1 rfl rfl (Nat.le_of_ble_eq_true rfl) dX11_mean_57 (fun H locs hw hM => ?_)
        refine lv_iload_n hx hb dX11_mean_60 rfl (lv_at hl 2 rfl) ?_
        obtain ⟨x17, e, hf⟩ := ob hf
        refine q_callVN (As := [.long x14, .int v2]) (rest := []) (st1 := [.long x17]) (c_X0_fraction G e) B hw hM.hz hM.hc0 (k_X0_fraction e) (by decide) (ci := 0) rfl rfl my_X0_fraction mv_X0_fraction tw_5_80 ⟨Nat.le_of_ble_eq_true rfl, Nat.le_of_ble_eq_true rfl⟩ hM.hcs rfl hl.1 rfl rfl (Nat.le_of_ble_eq_true rfl) dX11_mean_61 (fun H locs hw => ?_)
        obtain ⟨rfl, rfl, rfl⟩ := so3 hf
        exact q_lret B hw hM.hz hM.hc0 hr hlk dX11_mean_64
      · have hf := (if_neg c5).symm.trans hf
        exact w_X11_mean_20 G B hr hlk  z h _ _ _ hw hM (lv_sub hl [] rfl) hf
/-! SecondLife.choice(I)I -/
def f_X11_choice (n : Nat) (z : Sh) (h : Hp) (v0 : Nat) (v1 : Int32) : Option (Int32 × Hp × Sh) :=
  if z.K v0 = 11 then
    gd3 z <|
    (gR z h 11 v0 4).bind fun a1 =>
    (f_X5_has z h a1 v1).bind fun x2 =>
    if x2 = 0 then
      (f_X11_refused z h 2).bind fun x12 =>
      some (x12, h, z)
    else
      (gR z h 11 v0 12).bind fun a4 =>
      (gR z h 11 v0 3).bind fun a5 =>
      (gR z h 11 v0 4).bind fun a6 =>
      (f_X10_about n z h a4 a5 a6 v1).bind fun h7 =>
      (gR z h7 11 v0 14).bind fun a8 =>
      (f_X0_meanDoing n z h7 a8).bind fun (x9, h10, z11) =>
      gd3 z11 <|
      some (x9, h10, z11)
  else none
theorem k_X11_choice {n : Nat} {z : Sh} {h : Hp} {v0 : Nat} {v1 : Int32} {w : Int32 × Hp × Sh} (hf : f_X11_choice n z h v0 v1 = some w) : z.K v0 = 11 := by
  unfold f_X11_choice at hf
  exact (if_some hf).1
theorem mo_X11_choice {n : Nat} {z : Sh} {h : Hp} {v0 : Nat} {v1 : Int32} {r : Int32} {h' : Hp} {zE : Sh} (hf : f_X11_choice n z h v0 v1 = some (r, h', zE)) : z.sz ≤ zE.sz ∧ z.sl ≤ zE.sl := by
  unfold f_X11_choice at hf
  exact (gd3_some (if_some hf).2).1
set_option maxHeartbeats 4000000 in
theorem c_X11_choice {l : Launch} {s0 : State} {E : Ev} (G : Gl s0 E) {n : Nat} {z : Sh} {h : Hp} {v0 : Nat} {v1 : Int32} {r : Int32} {h' : Hp} {zE : Sh} (hf : f_X11_choice n z h v0 v1 = some (r, h', zE)) : Ca l s0 E yX11_choice cX11_choice 2 (some .int) 67 3749 [.ref v0, .int v1] z zE h h' (some (.int r)) := by
  refine Ca.of G (by decide +kernel) (Nat.le_of_ble_eq_true rfl) (mo_X11_choice hf) ?_
  intro p e s m below meth c ls B hw hM hr hlk hnm0 hl
  have B : Bd p s0 s E m c cX11_choice 2 RX11 := B
  have hx := B.1
  have hb := B.2.1
  have hl : lv_has ls 2 [(0, .ref v0), (1, .int v1)] := hl
  unfold f_X11_choice at hf
  obtain ⟨_, hf⟩ := if_some hf
  obtain ⟨_, hf⟩ := gd3_some hf
  refine lv_aload_n hx hb dX11_choice_0 rfl (lv_at hl 0 rfl) ?_
  obtain ⟨a1, e, hf⟩ := ob hf
  refine q_getR e B hw fd_11_4.1 fd_11_4.2.1 fd_11_4.2.2.1 fd_11_4.2.2.2.1 fd_11_4.2.2.2.2 rfl tw_2_106 dX11_choice_1 ?_
  refine lv_iload_n hx hb dX11_choice_4 rfl (lv_at hl 1 rfl) ?_
  obtain ⟨x2, e, hf⟩ := ob hf
  refine q_callVN (As := [.int v1]) (rest := []) (st1 := [.int x2]) (c_X5_has G e) B hw hM.hz hM.hc0 (k_X5_has e) (by decide) (ci := 5) rfl rfl my_X5_has mv_X5_has tw_3_210 ⟨Nat.le_of_ble_eq_true rfl, Nat.le_of_ble_eq_true rfl⟩ hM.hcs rfl hl.1 rfl rfl (Nat.le_of_ble_eq_true rfl) dX11_choice_5 (fun H locs hw => ?_)
  refine lv_if_ne (tgt := 16) hx hb dX11_choice_8 (by decide) (fun c3 => ?_) (fun c3 => ?_)
  · have hf := (if_neg c3).symm.trans hf
    refine lv_aload_n hx hb dX11_choice_16 rfl (lv_at hl 0 rfl) ?_
    obtain ⟨a4, e, hf⟩ := ob hf
    refine q_getR e B hw fd_11_12.1 fd_11_12.2.1 fd_11_12.2.2.1 fd_11_12.2.2.2.1 fd_11_12.2.2.2.2 rfl tw_2_114 dX11_choice_17 ?_
    refine lv_aload_n hx hb dX11_choice_20 rfl (lv_at hl 0 rfl) ?_
    obtain ⟨a5, e, hf⟩ := ob hf
    refine q_getR e B hw fd_11_3.1 fd_11_3.2.1 fd_11_3.2.2.1 fd_11_3.2.2.2.1 fd_11_3.2.2.2.2 rfl tw_2_105 dX11_choice_21 ?_
    refine lv_aload_n hx hb dX11_choice_24 rfl (lv_at hl 0 rfl) ?_
    obtain ⟨a6, e, hf⟩ := ob hf
    refine q_getR e B hw fd_11_4.1 fd_11_4.2.1 fd_11_4.2.2.1 fd_11_4.2.2.2.1 fd_11_4.2.2.2.2 rfl tw_2_106 dX11_choice_25 ?_
    refine lv_iload_n hx hb dX11_choice_28 rfl (lv_at hl 1 rfl) ?_
    obtain ⟨h7, e, hf⟩ := ob hf
    refine q_callVN (As := [.ref a5, .ref a6, .int v1]) (rest := []) (st1 := []) (c_X10_about G e) B hw hM.hz hM.hc0 (k_X10_about e) (by decide) (ci := 10) rfl rfl my_X10_about mv_X10_about tw_4_153 ⟨Nat.le_of_ble_eq_true rfl, Nat.le_of_ble_eq_true rfl⟩ hM.hcs rfl hl.1 rfl rfl (Nat.le_of_ble_eq_true rfl) dX11_choice_29 (fun H locs hw => ?_)
    refine lv_aload_n hx hb dX11_choice_32 rfl (lv_at hl 0 rfl) ?_
    obtain ⟨a8, e, hf⟩ := ob hf
    refine q_getR e B hw fd_11_14.1 fd_11_14.2.1 fd_11_14.2.2.1 fd_11_14.2.2.2.1 fd_11_14.2.2.2.2 rfl tw_2_116 dX11_choice_33 ?_
    obtain ⟨⟨x9, h10, z11⟩, e, hf⟩ := ob hf
    obtain ⟨hg, hf⟩ := gd3_some hf
    refine q_callVNA (As := []) (rest := []) (st1 := [.int x9]) (c_X0_meanDoing G e) (mo_X0_meanDoing e) hg B hw hM (k_X0_meanDoing e) (by decide) (ci := 0) rfl rfl my_X0_meanDoing mv_X0_meanDoing tw_5_91 ⟨Nat.le_of_ble_eq_true rfl, Nat.le_of_ble_eq_true rfl⟩ rfl hl.1 rfl rfl (Nat.le_of_ble_eq_true rfl) dX11_choice_36 (fun H locs hw hM => ?_)
    obtain ⟨rfl, rfl, rfl⟩ := so3 hf
    exact q_iret B hw hM.hz hM.hc0 hr hlk dX11_choice_39
  · have hf := (if_pos c3).symm.trans hf
    refine lv_iconst (v := 2) hx hb dX11_choice_11 (by decide) ?_
    obtain ⟨x12, e, hf⟩ := ob hf
    refine q_callS (As := [.int 2]) (rest := []) (st1 := [.int x12]) (c_X11_refused G e) B hw hM.hz hM.hc0 my_X11_refused mv_X11_refused tw_2_155 ⟨Nat.le_of_ble_eq_true rfl, Nat.le_of_ble_eq_true rfl⟩ hM.hcs rfl hl.1 rfl rfl (Nat.le_of_ble_eq_true rfl) dX11_choice_12 (fun H locs hw => ?_)
    obtain ⟨rfl, rfl, rfl⟩ := so3 hf
    exact q_iret B hw hM.hz hM.hc0 hr hlk dX11_choice_15
/-! SecondLife.drawing(I)I -/
def f_X11_drawing (n : Nat) (z : Sh) (h : Hp) (v0 : Nat) (v1 : Int32) : Option (Int32 × Hp × Sh) :=
  if z.K v0 = 11 then
    gd3 z <|
    (gR z h 11 v0 4).bind fun a1 =>
    (f_X5_has z h a1 v1).bind fun x2 =>
    if x2 = 0 then
      (f_X11_refused z h 2).bind fun x13 =>
      some (x13, h, z)
    else
      (gR z h 11 v0 12).bind fun a4 =>
      (gR z h 11 v0 3).bind fun a5 =>
      (gR z h 11 v0 4).bind fun a6 =>
      (f_X10_about n z h a4 a5 a6 v1).bind fun h7 =>
      (gR z h7 11 v0 14).bind fun a8 =>
      (f_X0_drawingIsBest n z h7 a8).bind fun (x9, h10, z11) =>
      gd3 z11 <|
      if x9 = 0 then
        some ((0 : Int32), h10, z11)
      else
        some ((1 : Int32), h10, z11)
  else none
theorem k_X11_drawing {n : Nat} {z : Sh} {h : Hp} {v0 : Nat} {v1 : Int32} {w : Int32 × Hp × Sh} (hf : f_X11_drawing n z h v0 v1 = some w) : z.K v0 = 11 := by
  unfold f_X11_drawing at hf
  exact (if_some hf).1
theorem mo_X11_drawing {n : Nat} {z : Sh} {h : Hp} {v0 : Nat} {v1 : Int32} {r : Int32} {h' : Hp} {zE : Sh} (hf : f_X11_drawing n z h v0 v1 = some (r, h', zE)) : z.sz ≤ zE.sz ∧ z.sl ≤ zE.sl := by
  unfold f_X11_drawing at hf
  exact (gd3_some (if_some hf).2).1
set_option maxHeartbeats 4000000 in
theorem c_X11_drawing {l : Launch} {s0 : State} {E : Ev} (G : Gl s0 E) {n : Nat} {z : Sh} {h : Hp} {v0 : Nat} {v1 : Int32} {r : Int32} {h' : Hp} {zE : Sh} (hf : f_X11_drawing n z h v0 v1 = some (r, h', zE)) : Ca l s0 E yX11_drawing cX11_drawing 2 (some .int) 67 3745 [.ref v0, .int v1] z zE h h' (some (.int r)) := by
  refine Ca.of G (by decide +kernel) (Nat.le_of_ble_eq_true rfl) (mo_X11_drawing hf) ?_
  intro p e s m below meth c ls B hw hM hr hlk hnm0 hl
  have B : Bd p s0 s E m c cX11_drawing 2 RX11 := B
  have hx := B.1
  have hb := B.2.1
  have hl : lv_has ls 2 [(0, .ref v0), (1, .int v1)] := hl
  unfold f_X11_drawing at hf
  obtain ⟨_, hf⟩ := if_some hf
  obtain ⟨_, hf⟩ := gd3_some hf
  refine lv_aload_n hx hb dX11_drawing_0 rfl (lv_at hl 0 rfl) ?_
  obtain ⟨a1, e, hf⟩ := ob hf
  refine q_getR e B hw fd_11_4.1 fd_11_4.2.1 fd_11_4.2.2.1 fd_11_4.2.2.2.1 fd_11_4.2.2.2.2 rfl tw_2_106 dX11_drawing_1 ?_
  refine lv_iload_n hx hb dX11_drawing_4 rfl (lv_at hl 1 rfl) ?_
  obtain ⟨x2, e, hf⟩ := ob hf
  refine q_callVN (As := [.int v1]) (rest := []) (st1 := [.int x2]) (c_X5_has G e) B hw hM.hz hM.hc0 (k_X5_has e) (by decide) (ci := 5) rfl rfl my_X5_has mv_X5_has tw_3_210 ⟨Nat.le_of_ble_eq_true rfl, Nat.le_of_ble_eq_true rfl⟩ hM.hcs rfl hl.1 rfl rfl (Nat.le_of_ble_eq_true rfl) dX11_drawing_5 (fun H locs hw => ?_)
  refine lv_if_ne (tgt := 16) hx hb dX11_drawing_8 (by decide) (fun c3 => ?_) (fun c3 => ?_)
  · have hf := (if_neg c3).symm.trans hf
    refine lv_aload_n hx hb dX11_drawing_16 rfl (lv_at hl 0 rfl) ?_
    obtain ⟨a4, e, hf⟩ := ob hf
    refine q_getR e B hw fd_11_12.1 fd_11_12.2.1 fd_11_12.2.2.1 fd_11_12.2.2.2.1 fd_11_12.2.2.2.2 rfl tw_2_114 dX11_drawing_17 ?_
    refine lv_aload_n hx hb dX11_drawing_20 rfl (lv_at hl 0 rfl) ?_
    obtain ⟨a5, e, hf⟩ := ob hf
    refine q_getR e B hw fd_11_3.1 fd_11_3.2.1 fd_11_3.2.2.1 fd_11_3.2.2.2.1 fd_11_3.2.2.2.2 rfl tw_2_105 dX11_drawing_21 ?_
    refine lv_aload_n hx hb dX11_drawing_24 rfl (lv_at hl 0 rfl) ?_
    obtain ⟨a6, e, hf⟩ := ob hf
    refine q_getR e B hw fd_11_4.1 fd_11_4.2.1 fd_11_4.2.2.1 fd_11_4.2.2.2.1 fd_11_4.2.2.2.2 rfl tw_2_106 dX11_drawing_25 ?_
    refine lv_iload_n hx hb dX11_drawing_28 rfl (lv_at hl 1 rfl) ?_
    obtain ⟨h7, e, hf⟩ := ob hf
    refine q_callVN (As := [.ref a5, .ref a6, .int v1]) (rest := []) (st1 := []) (c_X10_about G e) B hw hM.hz hM.hc0 (k_X10_about e) (by decide) (ci := 10) rfl rfl my_X10_about mv_X10_about tw_4_153 ⟨Nat.le_of_ble_eq_true rfl, Nat.le_of_ble_eq_true rfl⟩ hM.hcs rfl hl.1 rfl rfl (Nat.le_of_ble_eq_true rfl) dX11_drawing_29 (fun H locs hw => ?_)
    refine lv_aload_n hx hb dX11_drawing_32 rfl (lv_at hl 0 rfl) ?_
    obtain ⟨a8, e, hf⟩ := ob hf
    refine q_getR e B hw fd_11_14.1 fd_11_14.2.1 fd_11_14.2.2.1 fd_11_14.2.2.2.1 fd_11_14.2.2.2.2 rfl tw_2_116 dX11_drawing_33 ?_
    obtain ⟨⟨x9, h10, z11⟩, e, hf⟩ := ob hf
    obtain ⟨hg, hf⟩ := gd3_some hf
    refine q_callVNA (As := []) (rest := []) (st1 := [.int x9]) (c_X0_drawingIsBest G e) (mo_X0_drawingIsBest e) hg B hw hM (k_X0_drawingIsBest e) (by decide) (ci := 0) rfl rfl my_X0_drawingIsBest mv_X0_drawingIsBest tw_5_99 ⟨Nat.le_of_ble_eq_true rfl, Nat.le_of_ble_eq_true rfl⟩ rfl hl.1 rfl rfl (Nat.le_of_ble_eq_true rfl) dX11_drawing_36 (fun H locs hw hM => ?_)
    refine lv_if_eq (tgt := 46) hx hb dX11_drawing_39 (by decide) (fun c12 => ?_) (fun c12 => ?_)
    · have hf := (if_pos c12).symm.trans hf
      refine lv_iconst (v := 0) hx hb dX11_drawing_46 (by decide) ?_
      obtain ⟨rfl, rfl, rfl⟩ := so3 hf
      exact q_iret B hw hM.hz hM.hc0 hr hlk dX11_drawing_47
    · have hf := (if_neg c12).symm.trans hf
      refine lv_iconst (v := 1) hx hb dX11_drawing_42 (by decide) ?_
      refine lv_goto (tgt := 47) hx hb dX11_drawing_43 (by decide) ?_
      obtain ⟨rfl, rfl, rfl⟩ := so3 hf
      exact q_iret B hw hM.hz hM.hc0 hr hlk dX11_drawing_47
  · have hf := (if_pos c3).symm.trans hf
    refine lv_iconst (v := 2) hx hb dX11_drawing_11 (by decide) ?_
    obtain ⟨x13, e, hf⟩ := ob hf
    refine q_callS (As := [.int 2]) (rest := []) (st1 := [.int x13]) (c_X11_refused G e) B hw hM.hz hM.hc0 my_X11_refused mv_X11_refused tw_2_155 ⟨Nat.le_of_ble_eq_true rfl, Nat.le_of_ble_eq_true rfl⟩ hM.hcs rfl hl.1 rfl rfl (Nat.le_of_ble_eq_true rfl) dX11_drawing_12 (fun H locs hw => ?_)
    obtain ⟨rfl, rfl, rfl⟩ := so3 hf
    exact q_iret B hw hM.hz hM.hc0 hr hlk dX11_drawing_15
