/-! SecondLife$Chances.hopeDoing(I)I -/
def f_X0_hopeDoing_39 (n : Nat)  : Nat → Sh → Hp → Nat → Int32 → Int32 → Int64 → Int32 → Int32 → Option (Int32 × Hp × Sh)
  | 0, _, _, _, _, _, _, _, _ => none
  | i + 1, z, h, v0, v1, v2, v3, v5, v6 =>
    if v5 ≤ v6 then
      some ((9 : Int32), h, z)
    else
      (f_X0_hopeByYear n z h v0 v2 v1 v6).bind fun (x2, h3, z4) =>
      gd3 z4 <|
      if (lg_cmp x2 v3) = 0 then
        some (v6, h3, z4)
      else
        (some (v6 + 1)).bind fun x6 =>
        (f_X0_hopeDoing_39 n i) z4 h3 v0 v1 v2 v3 v5 x6
def f_X0_hopeDoing (n : Nat) (z : Sh) (h : Hp) (v0 : Nat) (v1 : Int32) : Option (Int32 × Hp × Sh) :=
  if z.K v0 = 0 then
    gd3 z <|
    (gR z h 0 v0 0).bind fun a1 =>
    (gI z h 10 a1 8).bind fun x2 =>
    (f_X0_hopeNow n z h v0 v1).bind fun (x3, h4, z5) =>
    gd3 z5 <|
    if v1 ≤ 0 then
      some (((-1) : Int32), h4, z5)
    else
      if (lg_cmp x3 0) = 0 then
        some (((-1) : Int32), h4, z5)
      else
        (gR z5 h4 0 v0 0).bind fun a8 =>
        (f_X10_openTrades z5 h4 a8 x2).bind fun x9 =>
        f_X0_hopeDoing_39 n n z5 h4 v0 v1 x2 x3 x9 0
  else none
theorem k_X0_hopeDoing {n : Nat} {z : Sh} {h : Hp} {v0 : Nat} {v1 : Int32} {w : Int32 × Hp × Sh} (hf : f_X0_hopeDoing n z h v0 v1 = some w) : z.K v0 = 0 := by
  unfold f_X0_hopeDoing at hf
  exact (if_some hf).1
theorem mo_X0_hopeDoing {n : Nat} {z : Sh} {h : Hp} {v0 : Nat} {v1 : Int32} {r : Int32} {h' : Hp} {zE : Sh} (hf : f_X0_hopeDoing n z h v0 v1 = some (r, h', zE)) : z.sz ≤ zE.sz ∧ z.sl ≤ zE.sl := by
  unfold f_X0_hopeDoing at hf
  exact (gd3_some (if_some hf).2).1
set_option maxHeartbeats 4000000 in
theorem w_X0_hopeDoing_39 {p : Program} {l : Launch} {e : Env} {s : State} {m : MethodId} {args : Array Value} {below : List Frame} {meth : Method} {c : Code} {s0 : State} {E : Ev} {z0 : Sh} {n : Nat} {r : Int32} {h' : Hp} {zE : Sh} (G : Gl s0 E) (B : Bd p s0 s E m c cX0_hopeDoing 7 RX0) (hr : meth.sig.returnType = (some .int)) (hlk : meth.locks = false) : ∀ (i : Nat), ∀ (z : Sh) (h : Hp) (v0 : Nat) (v1 : Int32) (v2 : Int32) (v3 : Int64) (v5 : Int32) (v6 : Int32) (H : Heap) (locs : List Loc) (ls : Array Slot), Pw s0 s E z h H locs → Mo s0 s z0 z zE → lv_has ls 7 [(0, .ref v0), (1, .int v1), (2, .int v2), (3, .long v3), (5, .int v5), (6, .int v6)] → f_X0_hopeDoing_39 n i z h v0 v1 v2 v3 v5 v6 = some (r, h', zE) → W p l e (rmA 68 3770 z0 zE) s m args below meth c H locs (z.sz - z0.sz) (z.sl - z0.sl) (Zt below s0 E zE h' (some (.int r)) args s (zE.sz - z0.sz) (zE.sl - z0.sl)) (F0 m 39 ls []) := by
  have hx := B.1
  have hb := B.2.1
  intro i
  induction i with
  | zero =>
    intro z h v0 v1 v2 v3 v5 v6 H locs ls hw hM hl hf
    have hf := (f_X0_hopeDoing_39.eq_1 ..).symm.trans hf
    cases hf
  | succ i ih =>
    intro z h v0 v1 v2 v3 v5 v6 H locs ls hw hM hl hf
    have hf := (f_X0_hopeDoing_39.eq_2 ..).symm.trans hf
    refine lv_iload hx hb dX0_hopeDoing_39 (lv_at hl 5 rfl) ?_
    refine lv_iload hx hb dX0_hopeDoing_41 (lv_at hl 4 rfl) ?_
    refine lv_icmp_ge (tgt := 68) hx hb dX0_hopeDoing_43 (by decide) (fun c1 => ?_) (fun c1 => ?_)
    · have hf := (if_pos c1).symm.trans hf
      refine lv_bipush (v := 9) hx hb dX0_hopeDoing_68 (by decide) ?_
      obtain ⟨rfl, rfl, rfl⟩ := so3 hf
      exact q_iret B hw hM.hz hM.hc0 hr hlk dX0_hopeDoing_70
    · have hf := (if_neg c1).symm.trans hf
      refine lv_aload_n hx hb dX0_hopeDoing_46 rfl (lv_at hl 0 rfl) ?_
      refine lv_iload_n hx hb dX0_hopeDoing_47 rfl (lv_at hl 2 rfl) ?_
      refine lv_iload_n hx hb dX0_hopeDoing_48 rfl (lv_at hl 1 rfl) ?_
      refine lv_iload hx hb dX0_hopeDoing_49 (lv_at hl 5 rfl) ?_
      obtain ⟨⟨x2, h3, z4⟩, e, hf⟩ := ob hf
      obtain ⟨hg, hf⟩ := gd3_some hf
      refine q_callVA (As := [.int v2, .int v1, .int v6]) (rest := []) (st1 := [.long x2]) (c_X0_hopeByYear G e) (mo_X0_hopeByYear e) hg B hw hM (k_X0_hopeByYear e) (by decide) (ci := 0) rfl rfl my_X0_hopeByYear mv_X0_hopeByYear tw_5_137 ⟨Nat.le_of_ble_eq_true rfl, Nat.le_of_ble_eq_true rfl⟩ rfl hl.1 rfl rfl (Nat.le_of_ble_eq_true rfl) dX0_hopeDoing_51 (fun H locs hw hM => ?_)
      refine lv_lload_n hx hb dX0_hopeDoing_54 rfl (lv_at hl 3 rfl) ?_
      refine W.lcmp hx hb dX0_hopeDoing_55 ?_
      refine lv_if_ne (tgt := 62) hx hb dX0_hopeDoing_56 (by decide) (fun c5 => ?_) (fun c5 => ?_)
      · have hf := (if_neg c5).symm.trans hf
        obtain ⟨x6, e, hf⟩ := ob hf
        refine lv_iinc (v := x6) (lv' := [(6, .int x6), (0, .ref v0), (1, .int v1), (2, .int v2), (3, .long v3), (5, .int v5)]) hx hb dX0_hopeDoing_62 hl (k := 5) rfl (Option.some.inj e) (by decide) rfl (fun ls hl => ?_)
        refine lv_goto (tgt := 39) hx hb dX0_hopeDoing_65 (by decide) ?_
        exact ih z4 h3 v0 v1 v2 v3 v5 x6 _ _ _ hw hM (lv_sub hl [1, 2, 3, 4, 5, 0] rfl) hf
      · have hf := (if_pos c5).symm.trans hf
        refine lv_iload hx hb dX0_hopeDoing_59 (lv_at hl 5 rfl) ?_
        obtain ⟨rfl, rfl, rfl⟩ := so3 hf
        exact q_iret B hw hM.hz hM.hc0 hr hlk dX0_hopeDoing_61
set_option maxHeartbeats 4000000 in
theorem c_X0_hopeDoing {l : Launch} {s0 : State} {E : Ev} (G : Gl s0 E) {n : Nat} {z : Sh} {h : Hp} {v0 : Nat} {v1 : Int32} {r : Int32} {h' : Hp} {zE : Sh} (hf : f_X0_hopeDoing n z h v0 v1 = some (r, h', zE)) : Ca l s0 E yX0_hopeDoing cX0_hopeDoing 7 (some .int) 68 3770 [.ref v0, .int v1] z zE h h' (some (.int r)) := by
  refine Ca.of G (by decide +kernel) (Nat.le_of_ble_eq_true rfl) (mo_X0_hopeDoing hf) ?_
  intro p e s m below meth c ls B hw hM hr hlk hnm0 hl
  have B : Bd p s0 s E m c cX0_hopeDoing 7 RX0 := B
  have hx := B.1
  have hb := B.2.1
  have hl : lv_has ls 7 [(0, .ref v0), (1, .int v1)] := hl
  unfold f_X0_hopeDoing at hf
  obtain ⟨_, hf⟩ := if_some hf
  obtain ⟨_, hf⟩ := gd3_some hf
  refine lv_aload_n hx hb dX0_hopeDoing_0 rfl (lv_at hl 0 rfl) ?_
  obtain ⟨a1, e, hf⟩ := ob hf
  refine q_getR e B hw fd_0_0.1 fd_0_0.2.1 fd_0_0.2.2.1 fd_0_0.2.2.2.1 fd_0_0.2.2.2.2 rfl tw_2_64 dX0_hopeDoing_1 ?_
  obtain ⟨x2, e, hf⟩ := ob hf
  refine q_getIN e B hw fd_10_8.1 fd_10_8.2.1 fd_10_8.2.2.1 fd_10_8.2.2.2.1 fd_10_8.2.2.2.2 rfl tw_2_1 dX0_hopeDoing_4 ?_
  refine lv_istore_n (lv' := [(2, .int x2), (0, .ref v0), (1, .int v1)]) hx hb dX0_hopeDoing_7 rfl hl (by decide) rfl (fun ls hl => ?_)
  refine lv_aload_n hx hb dX0_hopeDoing_8 rfl (lv_at hl 1 rfl) ?_
  refine lv_iload_n hx hb dX0_hopeDoing_9 rfl (lv_at hl 2 rfl) ?_
  obtain ⟨⟨x3, h4, z5⟩, e, hf⟩ := ob hf
  obtain ⟨hg, hf⟩ := gd3_some hf
  refine q_callVA (As := [.int v1]) (rest := []) (st1 := [.long x3]) (c_X0_hopeNow G e) (mo_X0_hopeNow e) hg B hw hM (k_X0_hopeNow e) (by decide) (ci := 0) rfl rfl my_X0_hopeNow mv_X0_hopeNow tw_5_149 ⟨Nat.le_of_ble_eq_true rfl, Nat.le_of_ble_eq_true rfl⟩ rfl hl.1 rfl rfl (Nat.le_of_ble_eq_true rfl) dX0_hopeDoing_10 (fun H locs hw hM => ?_)
  refine lv_lstore_n (lv' := [(3, .long x3), (2, .int x2), (0, .ref v0), (1, .int v1)]) hx hb dX0_hopeDoing_13 rfl hl (by decide) rfl (fun ls hl => ?_)
  refine lv_iload_n hx hb dX0_hopeDoing_14 rfl (lv_at hl 3 rfl) ?_
  refine lv_if_le (tgt := 24) hx hb dX0_hopeDoing_15 (by decide) (fun c6 => ?_) (fun c6 => ?_)
  · have hf := (if_pos c6).symm.trans hf
    refine lv_iconst (v := (-1)) hx hb dX0_hopeDoing_24 (by decide) ?_
    obtain ⟨rfl, rfl, rfl⟩ := so3 hf
    exact q_iret B hw hM.hz hM.hc0 hr hlk dX0_hopeDoing_25
  · have hf := (if_neg c6).symm.trans hf
    refine lv_lload_n hx hb dX0_hopeDoing_18 rfl (lv_at hl 0 rfl) ?_
    refine lv_lconst (v := 0) hx hb dX0_hopeDoing_19 (by decide) ?_
    refine W.lcmp hx hb dX0_hopeDoing_20 ?_
    refine lv_if_ne (tgt := 26) hx hb dX0_hopeDoing_21 (by decide) (fun c7 => ?_) (fun c7 => ?_)
    · have hf := (if_neg c7).symm.trans hf
      refine lv_aload_n hx hb dX0_hopeDoing_26 rfl (lv_at hl 2 rfl) ?_
      obtain ⟨a8, e, hf⟩ := ob hf
      refine q_getR e B hw fd_0_0.1 fd_0_0.2.1 fd_0_0.2.2.1 fd_0_0.2.2.2.1 fd_0_0.2.2.2.2 rfl tw_2_64 dX0_hopeDoing_27 ?_
      refine lv_iload_n hx hb dX0_hopeDoing_30 rfl (lv_at hl 1 rfl) ?_
      obtain ⟨x9, e, hf⟩ := ob hf
      refine q_callVN (As := [.int x2]) (rest := []) (st1 := [.int x9]) (c_X10_openTrades G e) B hw hM.hz hM.hc0 (k_X10_openTrades e) (by decide) (ci := 10) rfl rfl my_X10_openTrades mv_X10_openTrades tw_5_73 ⟨Nat.le_of_ble_eq_true rfl, Nat.le_of_ble_eq_true rfl⟩ hM.hcs rfl hl.1 rfl rfl (Nat.le_of_ble_eq_true rfl) dX0_hopeDoing_31 (fun H locs hw => ?_)
      refine lv_istore (lv' := [(5, .int x9), (3, .long x3), (2, .int x2), (0, .ref v0), (1, .int v1)]) hx hb dX0_hopeDoing_34 hl (by decide) rfl (fun ls hl => ?_)
      refine lv_iconst (v := 0) hx hb dX0_hopeDoing_36 (by decide) ?_
      refine lv_istore (lv' := [(6, .int 0), (5, .int x9), (3, .long x3), (2, .int x2), (0, .ref v0), (1, .int v1)]) hx hb dX0_hopeDoing_37 hl (by decide) rfl (fun ls hl => ?_)
      exact w_X0_hopeDoing_39 G B hr hlk  n z5 h4 v0 v1 x2 x3 x9 0 _ _ _ hw hM (lv_sub hl [4, 5, 3, 2, 1, 0] rfl) hf
    · have hf := (if_pos c7).symm.trans hf
      refine lv_iconst (v := (-1)) hx hb dX0_hopeDoing_24 (by decide) ?_
      obtain ⟨rfl, rfl, rfl⟩ := so3 hf
      exact q_iret B hw hM.hz hM.hc0 hr hlk dX0_hopeDoing_25
/-! SecondLife$Reader.deeper(I)Z -/
def f_X6_deeper (n : Nat) (z : Sh) (h : Hp) (v0 : Nat) (v1 : Int32) : Option (Int32 × Hp) :=
  if z.K v0 = 6 then
    if v1 < 6 then
      (f_X6_next n z h v0).bind fun h2 =>
      some (1, h2)
    else
      (f_X6_wrong z h v0 4).bind fun (x3, h4) =>
      (bz x3).bind fun x5 =>
      some (x5, h4)
  else none
theorem k_X6_deeper {n : Nat} {z : Sh} {h : Hp} {v0 : Nat} {v1 : Int32} {w : Int32 × Hp} (hf : f_X6_deeper n z h v0 v1 = some w) : z.K v0 = 6 := by
  unfold f_X6_deeper at hf
  exact (if_some hf).1
set_option maxHeartbeats 4000000 in
theorem c_X6_deeper {l : Launch} {s0 : State} {E : Ev} (G : Gl s0 E) {n : Nat} {z : Sh} {h : Hp} {v0 : Nat} {v1 : Int32} {r : Int32} {h' : Hp} (hf : f_X6_deeper n z h v0 v1 = some (r, h')) : Ct l s0 E yX6_deeper cX6_deeper 2 (some .boolean) 5 112 [.ref v0, .int v1] z h h' (some (.int r)) := by
  refine Ct.of G (by decide) (Nat.le_of_ble_eq_true rfl) ?_
  intro p e s m below meth c ls B hw hz hc0 hr hlk hl
  have B : Bd p s0 s E m c cX6_deeper 2 RX6 := B
  have hx := B.1
  have hb := B.2.1
  have hl : lv_has ls 2 [(0, .ref v0), (1, .int v1)] := hl
  unfold f_X6_deeper at hf
  obtain ⟨_, hf⟩ := if_some hf
  refine lv_iload_n hx hb dX6_deeper_0 rfl (lv_at hl 1 rfl) ?_
  refine lv_bipush (v := 6) hx hb dX6_deeper_1 (by decide) ?_
  refine lv_icmp_lt (tgt := 12) hx hb dX6_deeper_3 (by decide) (fun c1 => ?_) (fun c1 => ?_)
  · have hf := (if_pos c1).symm.trans hf
    refine lv_aload_n hx hb dX6_deeper_12 rfl (lv_at hl 0 rfl) ?_
    obtain ⟨h2, e, hf⟩ := ob hf
    refine q_callV (As := []) (rest := []) (st1 := []) (c_X6_next G e) B hw hz hc0 (k_X6_next e) (by decide) (ci := 6) rfl rfl my_X6_next mv_X6_next tw_2_171 ⟨Nat.le_of_ble_eq_true rfl, Nat.le_of_ble_eq_true rfl⟩ ⟨Nat.zero_le _, Nat.zero_le _⟩ rfl hl.1 rfl rfl (Nat.le_of_ble_eq_true rfl) dX6_deeper_13 (fun H locs hw => ?_)
    refine lv_iconst (v := 1) hx hb dX6_deeper_16 (by decide) ?_
    obtain ⟨rfl, rfl⟩ := so2 hf
    exact q_zret (Or.inr rfl) B hw hz hc0 hr hlk dX6_deeper_17
  · have hf := (if_neg c1).symm.trans hf
    refine lv_aload_n hx hb dX6_deeper_6 rfl (lv_at hl 0 rfl) ?_
    refine lv_iconst (v := 4) hx hb dX6_deeper_7 (by decide) ?_
    obtain ⟨⟨x3, h4⟩, e, hf⟩ := ob hf
    refine q_callV (As := [.int 4]) (rest := []) (st1 := [.int x3]) (c_X6_wrong G e) B hw hz hc0 (k_X6_wrong e) (by decide) (ci := 6) rfl rfl my_X6_wrong mv_X6_wrong tw_3_71 ⟨Nat.le_of_ble_eq_true rfl, Nat.le_of_ble_eq_true rfl⟩ ⟨Nat.zero_le _, Nat.zero_le _⟩ rfl hl.1 rfl rfl (Nat.le_of_ble_eq_true rfl) dX6_deeper_8 (fun H locs hw => ?_)
    obtain ⟨x5, e, hf⟩ := ob hf
    obtain ⟨e1, e⟩ := if_some e
    cases e
    obtain ⟨rfl, rfl⟩ := so2 hf
    exact q_zret e1 B hw hz hc0 hr hlk dX6_deeper_11
/-! SecondLife$Reader.take(Ljava/lang/String;)Z -/
def f_X6_take (n : Nat) (z : Sh) (h : Hp) (v0 : Nat) (v1 : Nat) : Option (Int32 × Hp) :=
  if z.K v0 = 6 then
    (f_X6_is n z h v0 v1).bind fun x1 =>
    if x1 = 0 then
      (f_X6_wrong z h v0 2).bind fun (x4, h5) =>
      (bz x4).bind fun x6 =>
      some (x6, h5)
    else
      (f_X6_next n z h v0).bind fun h3 =>
      some (1, h3)
  else none
theorem k_X6_take {n : Nat} {z : Sh} {h : Hp} {v0 : Nat} {v1 : Nat} {w : Int32 × Hp} (hf : f_X6_take n z h v0 v1 = some w) : z.K v0 = 6 := by
  unfold f_X6_take at hf
  exact (if_some hf).1
set_option maxHeartbeats 4000000 in
theorem c_X6_take {l : Launch} {s0 : State} {E : Ev} (G : Gl s0 E) {n : Nat} {z : Sh} {h : Hp} {v0 : Nat} {v1 : Nat} {r : Int32} {h' : Hp} (hf : f_X6_take n z h v0 v1 = some (r, h')) : Ct l s0 E yX6_take cX6_take 2 (some .boolean) 5 112 [.ref v0, .ref v1] z h h' (some (.int r)) := by
  refine Ct.of G (by decide) (Nat.le_of_ble_eq_true rfl) ?_
  intro p e s m below meth c ls B hw hz hc0 hr hlk hl
  have B : Bd p s0 s E m c cX6_take 2 RX6 := B
  have hx := B.1
  have hb := B.2.1
  have hl : lv_has ls 2 [(0, .ref v0), (1, .ref v1)] := hl
  unfold f_X6_take at hf
  obtain ⟨_, hf⟩ := if_some hf
  refine lv_aload_n hx hb dX6_take_0 rfl (lv_at hl 0 rfl) ?_
  refine lv_aload_n hx hb dX6_take_1 rfl (lv_at hl 1 rfl) ?_
  obtain ⟨x1, e, hf⟩ := ob hf
  refine q_callV (As := [.ref v1]) (rest := []) (st1 := [.int x1]) (c_X6_is G e) B hw hz hc0 (k_X6_is e) (by decide) (ci := 6) rfl rfl my_X6_is mv_X6_is tw_3_46 ⟨Nat.le_of_ble_eq_true rfl, Nat.le_of_ble_eq_true rfl⟩ ⟨Nat.zero_le _, Nat.zero_le _⟩ rfl hl.1 rfl rfl (Nat.le_of_ble_eq_true rfl) dX6_take_2 (fun H locs hw => ?_)
  refine lv_if_ne (tgt := 14) hx hb dX6_take_5 (by decide) (fun c2 => ?_) (fun c2 => ?_)
  · have hf := (if_neg c2).symm.trans hf
    refine lv_aload_n hx hb dX6_take_14 rfl (lv_at hl 0 rfl) ?_
    obtain ⟨h3, e, hf⟩ := ob hf
    refine q_callV (As := []) (rest := []) (st1 := []) (c_X6_next G e) B hw hz hc0 (k_X6_next e) (by decide) (ci := 6) rfl rfl my_X6_next mv_X6_next tw_2_171 ⟨Nat.le_of_ble_eq_true rfl, Nat.le_of_ble_eq_true rfl⟩ ⟨Nat.zero_le _, Nat.zero_le _⟩ rfl hl.1 rfl rfl (Nat.le_of_ble_eq_true rfl) dX6_take_15 (fun H locs hw => ?_)
    refine lv_iconst (v := 1) hx hb dX6_take_18 (by decide) ?_
    obtain ⟨rfl, rfl⟩ := so2 hf
    exact q_zret (Or.inr rfl) B hw hz hc0 hr hlk dX6_take_19
  · have hf := (if_pos c2).symm.trans hf
    refine lv_aload_n hx hb dX6_take_8 rfl (lv_at hl 0 rfl) ?_
    refine lv_iconst (v := 2) hx hb dX6_take_9 (by decide) ?_
    obtain ⟨⟨x4, h5⟩, e, hf⟩ := ob hf
    refine q_callV (As := [.int 2]) (rest := []) (st1 := [.int x4]) (c_X6_wrong G e) B hw hz hc0 (k_X6_wrong e) (by decide) (ci := 6) rfl rfl my_X6_wrong mv_X6_wrong tw_3_71 ⟨Nat.le_of_ble_eq_true rfl, Nat.le_of_ble_eq_true rfl⟩ ⟨Nat.zero_le _, Nat.zero_le _⟩ rfl hl.1 rfl rfl (Nat.le_of_ble_eq_true rfl) dX6_take_10 (fun H locs hw => ?_)
    obtain ⟨x6, e, hf⟩ := ob hf
    obtain ⟨e1, e⟩ := if_some e
    cases e
    obtain ⟨rfl, rfl⟩ := so2 hf
    exact q_zret e1 B hw hz hc0 hr hlk dX6_take_13
/-! SecondLife$Reader.takeNumber(II)I -/
def f_X6_takeNumber_31 (n : Nat) (z : Sh) (h : Hp) (v0 : Nat) : Option (Int32 × Hp) :=
  (f_X6_wrong z h v0 3).bind fun (x1, h2) =>
  some ((0 : Int32), h2)
def f_X6_takeNumber (n : Nat) (z : Sh) (h : Hp) (v0 : Nat) (v1 : Int32) (v2 : Int32) : Option (Int32 × Hp) :=
  if z.K v0 = 6 then
    (gI z h 6 v0 6).bind fun x1 =>
    if x1 = 1 then
      (gI z h 6 v0 7).bind fun x3 =>
      if x3 < v1 then
        f_X6_takeNumber_31 n z h v0
      else
        if x3 ≤ v2 then
          (f_X6_next n z h v0).bind fun h6 =>
          some (x3, h6)
        else
          f_X6_takeNumber_31 n z h v0
    else
      (f_X6_wrong z h v0 2).bind fun (x7, h8) =>
      some ((0 : Int32), h8)
  else none
theorem k_X6_takeNumber {n : Nat} {z : Sh} {h : Hp} {v0 : Nat} {v1 : Int32} {v2 : Int32} {w : Int32 × Hp} (hf : f_X6_takeNumber n z h v0 v1 v2 = some w) : z.K v0 = 6 := by
  unfold f_X6_takeNumber at hf
  exact (if_some hf).1
set_option maxHeartbeats 4000000 in
theorem w_X6_takeNumber_31 {p : Program} {l : Launch} {e : Env} {s : State} {m : MethodId} {args : Array Value} {below : List Frame} {meth : Method} {c : Code} {s0 : State} {E : Ev} {z : Sh} {n : Nat} {r : Int32} {h' : Hp} (G : Gl s0 E) (B : Bd p s0 s E m c cX6_takeNumber 4 RX6) (hz : s0.heap.size ≤ z.sz) (hc0 : s.heap.size + 0 = z.sz) (hr : meth.sig.returnType = (some .int)) (hlk : meth.locks = false) : ∀ (h : Hp) (v0 : Nat) (H : Heap) (locs : List Loc) (ls : Array Slot), Pw s0 s E z h H locs → lv_has ls 4 [(0, .ref v0)] → f_X6_takeNumber_31 n z h v0 = some (r, h') → W p l e (rmO 5 112) s m args below meth c H locs 0 0 (Zt below s0 E z h' (some (.int r)) args s 0 0) (F0 m 31 ls []) := by
  have hx := B.1
  have hb := B.2.1
  intro h v0 H locs ls hw hl hf
  unfold f_X6_takeNumber_31 at hf
  refine lv_aload_n hx hb dX6_takeNumber_31 rfl (lv_at hl 0 rfl) ?_
  refine lv_iconst (v := 3) hx hb dX6_takeNumber_32 (by decide) ?_
  obtain ⟨⟨x1, h2⟩, e, hf⟩ := ob hf
  refine q_callV (As := [.int 3]) (rest := []) (st1 := [.int x1]) (c_X6_wrong G e) B hw hz hc0 (k_X6_wrong e) (by decide) (ci := 6) rfl rfl my_X6_wrong mv_X6_wrong tw_3_71 ⟨Nat.le_of_ble_eq_true rfl, Nat.le_of_ble_eq_true rfl⟩ ⟨Nat.zero_le _, Nat.zero_le _⟩ rfl hl.1 rfl rfl (Nat.le_of_ble_eq_true rfl) dX6_takeNumber_33 (fun H locs hw => ?_)
  refine lv_pop hx hb dX6_takeNumber_36 rfl ?_
  refine lv_iconst (v := 0) hx hb dX6_takeNumber_37 (by decide) ?_
  obtain ⟨rfl, rfl⟩ := so2 hf
  exact q_iret B hw hz hc0 hr hlk dX6_takeNumber_38
set_option maxHeartbeats 4000000 in
theorem c_X6_takeNumber {l : Launch} {s0 : State} {E : Ev} (G : Gl s0 E) {n : Nat} {z : Sh} {h : Hp} {v0 : Nat} {v1 : Int32} {v2 : Int32} {r : Int32} {h' : Hp} (hf : f_X6_takeNumber n z h v0 v1 v2 = some (r, h')) : Ct l s0 E yX6_takeNumber cX6_takeNumber 4 (some .int) 5 112 [.ref v0, .int v1, .int v2] z h h' (some (.int r)) := by
  refine Ct.of G (by decide) (Nat.le_of_ble_eq_true rfl) ?_
  intro p e s m below meth c ls B hw hz hc0 hr hlk hl
  have B : Bd p s0 s E m c cX6_takeNumber 4 RX6 := B
  have hx := B.1
  have hb := B.2.1
  have hl : lv_has ls 4 [(0, .ref v0), (1, .int v1), (2, .int v2)] := hl
  unfold f_X6_takeNumber at hf
  obtain ⟨_, hf⟩ := if_some hf
  refine lv_aload_n hx hb dX6_takeNumber_0 rfl (lv_at hl 0 rfl) ?_
  obtain ⟨x1, e, hf⟩ := ob hf
  refine q_getI e B hw fd_6_6.1 fd_6_6.2.1 fd_6_6.2.2.1 fd_6_6.2.2.2.1 fd_6_6.2.2.2.2 rfl tw_1_111 dX6_takeNumber_1 ?_
  refine lv_iconst (v := 1) hx hb dX6_takeNumber_4 (by decide) ?_
  refine lv_icmp_eq (tgt := 16) hx hb dX6_takeNumber_5 (by decide) (fun c2 => ?_) (fun c2 => ?_)
  · have hf := (if_pos c2).symm.trans hf
    refine lv_aload_n hx hb dX6_takeNumber_16 rfl (lv_at hl 0 rfl) ?_
    obtain ⟨x3, e, hf⟩ := ob hf
    refine q_getI e B hw fd_6_7.1 fd_6_7.2.1 fd_6_7.2.2.1 fd_6_7.2.2.2.1 fd_6_7.2.2.2.2 rfl tw_1_112 dX6_takeNumber_17 ?_
    refine lv_istore_n (lv' := [(3, .int x3), (0, .ref v0), (1, .int v1), (2, .int v2)]) hx hb dX6_takeNumber_20 rfl hl (by decide) rfl (fun ls hl => ?_)
    refine lv_iload_n hx hb dX6_takeNumber_21 rfl (lv_at hl 0 rfl) ?_
    refine lv_iload_n hx hb dX6_takeNumber_22 rfl (lv_at hl 2 rfl) ?_
    refine lv_icmp_lt (tgt := 31) hx hb dX6_takeNumber_23 (by decide) (fun c4 => ?_) (fun c4 => ?_)
    · have hf := (if_pos c4).symm.trans hf
      exact w_X6_takeNumber_31 G B hz hc0 hr hlk  h v0 _ _ _ hw (lv_sub hl [1] rfl) hf
    · have hf := (if_neg c4).symm.trans hf
      refine lv_iload_n hx hb dX6_takeNumber_26 rfl (lv_at hl 0 rfl) ?_
      refine lv_iload_n hx hb dX6_takeNumber_27 rfl (lv_at hl 3 rfl) ?_
      refine lv_icmp_le (tgt := 39) hx hb dX6_takeNumber_28 (by decide) (fun c5 => ?_) (fun c5 => ?_)
      · have hf := (if_pos c5).symm.trans hf
        refine lv_aload_n hx hb dX6_takeNumber_39 rfl (lv_at hl 1 rfl) ?_
        obtain ⟨h6, e, hf⟩ := ob hf
        refine q_callV (As := []) (rest := []) (st1 := []) (c_X6_next G e) B hw hz hc0 (k_X6_next e) (by decide) (ci := 6) rfl rfl my_X6_next mv_X6_next tw_2_171 ⟨Nat.le_of_ble_eq_true rfl, Nat.le_of_ble_eq_true rfl⟩ ⟨Nat.zero_le _, Nat.zero_le _⟩ rfl hl.1 rfl rfl (Nat.le_of_ble_eq_true rfl) dX6_takeNumber_40 (fun H locs hw => ?_)
        refine lv_iload_n hx hb dX6_takeNumber_43 rfl (lv_at hl 0 rfl) ?_
        obtain ⟨rfl, rfl⟩ := so2 hf
        exact q_iret B hw hz hc0 hr hlk dX6_takeNumber_44
      · have hf := (if_neg c5).symm.trans hf
        exact w_X6_takeNumber_31 G B hz hc0 hr hlk  h v0 _ _ _ hw (lv_sub hl [1] rfl) hf
  · have hf := (if_neg c2).symm.trans hf
    refine lv_aload_n hx hb dX6_takeNumber_8 rfl (lv_at hl 0 rfl) ?_
    refine lv_iconst (v := 2) hx hb dX6_takeNumber_9 (by decide) ?_
    obtain ⟨⟨x7, h8⟩, e, hf⟩ := ob hf
    refine q_callV (As := [.int 2]) (rest := []) (st1 := [.int x7]) (c_X6_wrong G e) B hw hz hc0 (k_X6_wrong e) (by decide) (ci := 6) rfl rfl my_X6_wrong mv_X6_wrong tw_3_71 ⟨Nat.le_of_ble_eq_true rfl, Nat.le_of_ble_eq_true rfl⟩ ⟨Nat.zero_le _, Nat.zero_le _⟩ rfl hl.1 rfl rfl (Nat.le_of_ble_eq_true rfl) dX6_takeNumber_10 (fun H locs hw => ?_)
    refine lv_pop hx hb dX6_takeNumber_13 rfl ?_
    refine lv_iconst (v := 0) hx hb dX6_takeNumber_14 (by decide) ?_
    obtain ⟨rfl, rfl⟩ := so2 hf
    exact q_iret B hw hz hc0 hr hlk dX6_takeNumber_15
/-! SecondLife.hope(III)J -/
def f_X11_hope_36 (n : Nat)  (z : Sh) (h : Hp) : Option (Int64 × Hp × Sh) :=
  (f_X11_refused z h 3).bind fun x1 =>
  some ((Int32.toInt64 x1), h, z)
def f_X11_hope_20 (n : Nat)  (z : Sh) (h : Hp) : Option (Int64 × Hp × Sh) :=
  (f_X11_refused z h 2).bind fun x1 =>
  some ((Int32.toInt64 x1), h, z)
def f_X11_hope (n : Nat) (z : Sh) (h : Hp) (v0 : Nat) (v1 : Int32) (v2 : Int32) (v3 : Int32) : Option (Int64 × Hp × Sh) :=
  if z.K v0 = 11 then
    gd3 z <|
    (gR z h 11 v0 4).bind fun a1 =>
    (f_X5_has z h a1 v1).bind fun x2 =>
    if x2 = 0 then
      f_X11_hope_20 n z h
    else
      if v3 < 0 then
        f_X11_hope_20 n z h
      else
        if v3 ≤ 1 then
          if v2 < 0 then
            f_X11_hope_36 n z h
          else
            if v2 ≤ 60 then
              (gR z h 11 v0 12).bind fun a8 =>
              (gR z h 11 v0 3).bind fun a9 =>
              (gR z h 11 v0 4).bind fun a10 =>
              (f_X10_about n z h a8 a9 a10 v1).bind fun h11 =>
              (gR z h11 11 v0 14).bind fun a12 =>
              (gR z h11 11 v0 14).bind fun a13 =>
              (f_X0_hopeNow n z h11 a13 v2).bind fun (x14, h15, z16) =>
              gd3 z16 <|
              (f_X0_fraction n z16 h15 a12 x14 v3).bind fun x17 =>
              some (x17, h15, z16)
            else
              f_X11_hope_36 n z h
        else
          f_X11_hope_20 n z h
  else none
theorem k_X11_hope {n : Nat} {z : Sh} {h : Hp} {v0 : Nat} {v1 : Int32} {v2 : Int32} {v3 : Int32} {w : Int64 × Hp × Sh} (hf : f_X11_hope n z h v0 v1 v2 v3 = some w) : z.K v0 = 11 := by
  unfold f_X11_hope at hf
  exact (if_some hf).1
theorem mo_X11_hope {n : Nat} {z : Sh} {h : Hp} {v0 : Nat} {v1 : Int32} {v2 : Int32} {v3 : Int32} {r : Int64} {h' : Hp} {zE : Sh} (hf : f_X11_hope n z h v0 v1 v2 v3 = some (r, h', zE)) : z.sz ≤ zE.sz ∧ z.sl ≤ zE.sl := by
  unfold f_X11_hope at hf
  exact (gd3_some (if_some hf).2).1
set_option maxHeartbeats 4000000 in
theorem w_X11_hope_36 {p : Program} {l : Launch} {e : Env} {s : State} {m : MethodId} {args : Array Value} {below : List Frame} {meth : Method} {c : Code} {s0 : State} {E : Ev} {z0 : Sh} {n : Nat} {r : Int64} {h' : Hp} {zE : Sh} (G : Gl s0 E) (B : Bd p s0 s E m c cX11_hope 4 RX11) (hr : meth.sig.returnType = (some .long)) (hlk : meth.locks = false) : ∀ (z : Sh) (h : Hp) (H : Heap) (locs : List Loc) (ls : Array Slot), Pw s0 s E z h H locs → Mo s0 s z0 z zE → lv_has ls 4 [] → f_X11_hope_36 n z h = some (r, h', zE) → W p l e (rmA 68 3770 z0 zE) s m args below meth c H locs (z.sz - z0.sz) (z.sl - z0.sl) (Zt below s0 E zE h' (some (.long r)) args s (zE.sz - z0.sz) (zE.sl - z0.sl)) (F0 m 36 ls []) := by
  have hx := B.1
  have hb := B.2.1
  intro z h H locs ls hw hM hl hf
  unfold f_X11_hope_36 at hf
  refine lv_iconst (v := 3) hx hb dX11_hope_36 (by decide) ?_
  obtain ⟨x1, e, hf⟩ := ob hf
  refine q_callS (As := [.int 3]) (rest := []) (st1 := [.int x1]) (c_X11_refused G e) B hw hM.hz hM.hc0 my_X11_refused mv_X11_refused tw_2_155 ⟨Nat.le_of_ble_eq_true rfl, Nat.le_of_ble_eq_true rfl⟩ hM.hcs rfl hl.1 rfl rfl (Nat.le_of_ble_eq_true rfl) dX11_hope_37 (fun H locs hw => ?_)
  refine lv_i2l (v := (Int32.toInt64 x1)) hx hb dX11_hope_40 rfl ?_
  obtain ⟨rfl, rfl, rfl⟩ := so3 hf
  exact q_lret B hw hM.hz hM.hc0 hr hlk dX11_hope_41
set_option maxHeartbeats 4000000 in
theorem w_X11_hope_20 {p : Program} {l : Launch} {e : Env} {s : State} {m : MethodId} {args : Array Value} {below : List Frame} {meth : Method} {c : Code} {s0 : State} {E : Ev} {z0 : Sh} {n : Nat} {r : Int64} {h' : Hp} {zE : Sh} (G : Gl s0 E) (B : Bd p s0 s E m c cX11_hope 4 RX11) (hr : meth.sig.returnType = (some .long)) (hlk : meth.locks = false) : ∀ (z : Sh) (h : Hp) (H : Heap) (locs : List Loc) (ls : Array Slot), Pw s0 s E z h H locs → Mo s0 s z0 z zE → lv_has ls 4 [] → f_X11_hope_20 n z h = some (r, h', zE) → W p l e (rmA 68 3770 z0 zE) s m args below meth c H locs (z.sz - z0.sz) (z.sl - z0.sl) (Zt below s0 E zE h' (some (.long r)) args s (zE.sz - z0.sz) (zE.sl - z0.sl)) (F0 m 20 ls []) := by
  have hx := B.1
  have hb := B.2.1
  intro z h H locs ls hw hM hl hf
  unfold f_X11_hope_20 at hf
  refine lv_iconst (v := 2) hx hb dX11_hope_20 (by decide) ?_
  obtain ⟨x1, e, hf⟩ := ob hf
  refine q_callS (As := [.int 2]) (rest := []) (st1 := [.int x1]) (c_X11_refused G e) B hw hM.hz hM.hc0 my_X11_refused mv_X11_refused tw_2_155 ⟨Nat.le_of_ble_eq_true rfl, Nat.le_of_ble_eq_true rfl⟩ hM.hcs rfl hl.1 rfl rfl (Nat.le_of_ble_eq_true rfl) dX11_hope_21 (fun H locs hw => ?_)
  refine lv_i2l (v := (Int32.toInt64 x1)) hx hb dX11_hope_24 rfl ?_
  obtain ⟨rfl, rfl, rfl⟩ := so3 hf
  exact q_lret B hw hM.hz hM.hc0 hr hlk dX11_hope_25
set_option maxHeartbeats 4000000 in
theorem c_X11_hope {l : Launch} {s0 : State} {E : Ev} (G : Gl s0 E) {n : Nat} {z : Sh} {h : Hp} {v0 : Nat} {v1 : Int32} {v2 : Int32} {v3 : Int32} {r : Int64} {h' : Hp} {zE : Sh} (hf : f_X11_hope n z h v0 v1 v2 v3 = some (r, h', zE)) : Ca l s0 E yX11_hope cX11_hope 4 (some .long) 68 3770 [.ref v0, .int v1, .int v2, .int v3] z zE h h' (some (.long r)) := by
  refine Ca.of G (by decide +kernel) (Nat.le_of_ble_eq_true rfl) (mo_X11_hope hf) ?_
  intro p e s m below meth c ls B hw hM hr hlk hnm0 hl
  have B : Bd p s0 s E m c cX11_hope 4 RX11 := B
  have hx := B.1
  have hb := B.2.1
  have hl : lv_has ls 4 [(0, .ref v0), (1, .int v1), (2, .int v2), (3, .int v3)] := hl
  unfold f_X11_hope at hf
  obtain ⟨_, hf⟩ := if_some hf
  obtain ⟨_, hf⟩ := gd3_some hf
  refine lv_aload_n hx hb dX11_hope_0 rfl (lv_at hl 0 rfl) ?_
  obtain ⟨a1, e, hf⟩ := ob hf
  refine q_getR e B hw fd_11_4.1 fd_11_4.2.1 fd_11_4.2.2.1 fd_11_4.2.2.2.1 fd_11_4.2.2.2.2 rfl tw_2_106 dX11_hope_1 ?_
  refine lv_iload_n hx hb dX11_hope_4 rfl (lv_at hl 1 rfl) ?_
  obtain ⟨x2, e, hf⟩ := ob hf
  refine q_callVN (As := [.int v1]) (rest := []) (st1 := [.int x2]) (c_X5_has G e) B hw hM.hz hM.hc0 (k_X5_has e) (by decide) (ci := 5) rfl rfl my_X5_has mv_X5_has tw_3_214 ⟨Nat.le_of_ble_eq_true rfl, Nat.le_of_ble_eq_true rfl⟩ hM.hcs rfl hl.1 rfl rfl (Nat.le_of_ble_eq_true rfl) dX11_hope_5 (fun H locs hw => ?_)
  refine lv_if_eq (tgt := 20) hx hb dX11_hope_8 (by decide) (fun c3 => ?_) (fun c3 => ?_)
  · have hf := (if_pos c3).symm.trans hf
    exact w_X11_hope_20 G B hr hlk  z h _ _ _ hw hM (lv_sub hl [] rfl) hf
  · have hf := (if_neg c3).symm.trans hf
    refine lv_iload_n hx hb dX11_hope_11 rfl (lv_at hl 3 rfl) ?_
    refine lv_if_lt (tgt := 20) hx hb dX11_hope_12 (by decide) (fun c4 => ?_) (fun c4 => ?_)
    · have hf := (if_pos c4).symm.trans hf
      exact w_X11_hope_20 G B hr hlk  z h _ _ _ hw hM (lv_sub hl [] rfl) hf
    · have hf := (if_neg c4).symm.trans hf
      refine lv_iload_n hx hb dX11_hope_15 rfl (lv_at hl 3 rfl) ?_
      refine lv_iconst (v := 1) hx hb dX11_hope_16 (by decide) ?_
      refine lv_icmp_le (tgt := 26) hx hb dX11_hope_17 (by decide) (fun c5 => ?_) (fun c5 => ?_)
      · have hf := (if_pos c5).symm.trans hf
        refine lv_iload_n hx hb dX11_hope_26 rfl (lv_at hl 2 rfl) ?_
        refine lv_if_lt (tgt := 36) hx hb dX11_hope_27 (by decide) (fun c6 => ?_) (fun c6 => ?_)
        · have hf := (if_pos c6).symm.trans hf
          exact w_X11_hope_36 G B hr hlk  z h _ _ _ hw hM (lv_sub hl [] rfl) hf
        · have hf := (if_neg c6).symm.trans hf
          refine lv_iload_n hx hb dX11_hope_30 rfl (lv_at hl 2 rfl) ?_
          refine lv_bipush (v := 60) hx hb dX11_hope_31 (by decide) ?_
          refine lv_icmp_le (tgt := 42) hx hb dX11_hope_33 (by decide) (fun c7 => ?_) (fun c7 => ?_)
          · have hf := (if_pos c7).symm.trans hf
            refine lv_aload_n hx hb dX11_hope_42 rfl (lv_at hl 0 rfl) ?_
            obtain ⟨a8, e, hf⟩ := ob hf
            refine q_getR e B hw fd_11_12.1 fd_11_12.2.1 fd_11_12.2.2.1 fd_11_12.2.2.2.1 fd_11_12.2.2.2.2 rfl tw_2_114 dX11_hope_43 ?_
            refine lv_aload_n hx hb dX11_hope_46 rfl (lv_at hl 0 rfl) ?_
            obtain ⟨a9, e, hf⟩ := ob hf
            refine q_getR e B hw fd_11_3.1 fd_11_3.2.1 fd_11_3.2.2.1 fd_11_3.2.2.2.1 fd_11_3.2.2.2.2 rfl tw_2_105 dX11_hope_47 ?_
            refine lv_aload_n hx hb dX11_hope_50 rfl (lv_at hl 0 rfl) ?_
            obtain ⟨a10, e, hf⟩ := ob hf
            refine q_getR e B hw fd_11_4.1 fd_11_4.2.1 fd_11_4.2.2.1 fd_11_4.2.2.2.1 fd_11_4.2.2.2.2 rfl tw_2_106 dX11_hope_51 ?_
            refine lv_iload_n hx hb dX11_hope_54 rfl (lv_at hl 1 rfl) ?_
            obtain ⟨h11, e, hf⟩ := ob hf
            refine q_callVN (As := [.ref a9, .ref a10, .int v1]) (rest := []) (st1 := []) (c_X10_about G e) B hw hM.hz hM.hc0 (k_X10_about e) (by decide) (ci := 10) rfl rfl my_X10_about mv_X10_about tw_4_157 ⟨Nat.le_of_ble_eq_true rfl, Nat.le_of_ble_eq_true rfl⟩ hM.hcs rfl hl.1 rfl rfl (Nat.le_of_ble_eq_true rfl) dX11_hope_55 (fun H locs hw => ?_)
            refine lv_aload_n hx hb dX11_hope_58 rfl (lv_at hl 0 rfl) ?_
            obtain ⟨a12, e, hf⟩ := ob hf
            refine q_getR e B hw fd_11_14.1 fd_11_14.2.1 fd_11_14.2.2.1 fd_11_14.2.2.2.1 fd_11_14.2.2.2.2 rfl tw_2_116 dX11_hope_59 ?_
            refine lv_aload_n hx hb dX11_hope_62 rfl (lv_at hl 0 rfl) ?_
            obtain ⟨a13, e, hf⟩ := ob hf
            refine q_getR e B hw fd_11_14.1 fd_11_14.2.1 fd_11_14.2.2.1 fd_11_14.2.2.2.1 fd_11_14.2.2.2.2 rfl tw_2_116 dX11_hope_63 ?_
            refine lv_iload_n hx hb dX11_hope_66 rfl (lv_at hl 2 rfl) ?_
            obtain ⟨⟨x14, h15, z16⟩, e, hf⟩ := ob hf
            obtain ⟨hg, hf⟩ := gd3_some hf
            refine q_callVNA (As := [.int v2]) (rest := [.ref a12]) (st1 := [.long x14, .ref a12]) (c_X0_hopeNow G e) (mo_X0_hopeNow e) hg B hw hM (k_X0_hopeNow e) (by decide) (ci := 0) rfl rfl my_X0_hopeNow mv_X0_hopeNow tw_5_111 ⟨Nat.le_of_ble_eq_true rfl, Nat.le_of_ble_eq_true rfl⟩ rfl hl.1 rfl rfl (Nat.le_of_ble_eq_true rfl) dX11_hope_67 (fun H locs hw hM => ?_)
            refine lv_iload_n hx hb dX11_hope_70 rfl (lv_at hl 3 rfl) ?_
            obtain ⟨x17, e, hf⟩ := ob hf
            refine q_callVN (As := [.long x14, .int v3]) (rest := []) (st1 := [.long x17]) (c_X0_fraction G e) B hw hM.hz hM.hc0 (k_X0_fraction e) (by decide) (ci := 0) rfl rfl my_X0_fraction mv_X0_fraction tw_5_84 ⟨Nat.le_of_ble_eq_true rfl, Nat.le_of_ble_eq_true rfl⟩ hM.hcs rfl hl.1 rfl rfl (Nat.le_of_ble_eq_true rfl) dX11_hope_71 (fun H locs hw => ?_)
            obtain ⟨rfl, rfl, rfl⟩ := so3 hf
            exact q_lret B hw hM.hz hM.hc0 hr hlk dX11_hope_74
          · have hf := (if_neg c7).symm.trans hf
            exact w_X11_hope_36 G B hr hlk  z h _ _ _ hw hM (lv_sub hl [] rfl) hf
      · have hf := (if_neg c5).symm.trans hf
        exact w_X11_hope_20 G B hr hlk  z h _ _ _ hw hM (lv_sub hl [] rfl) hf
/-! SecondLife.hoping(II)I -/
def f_X11_hoping_26 (n : Nat)  (z : Sh) (h : Hp) : Option (Int32 × Hp × Sh) :=
  (f_X11_refused z h 3).bind fun x1 =>
  some (x1, h, z)
def f_X11_hoping (n : Nat) (z : Sh) (h : Hp) (v0 : Nat) (v1 : Int32) (v2 : Int32) : Option (Int32 × Hp × Sh) :=
  if z.K v0 = 11 then
    gd3 z <|
    (gR z h 11 v0 4).bind fun a1 =>
    (f_X5_has z h a1 v1).bind fun x2 =>
    if x2 = 0 then
      (f_X11_refused z h 2).bind fun x14 =>
      some (x14, h, z)
    else
      if v2 < 0 then
        f_X11_hoping_26 n z h
      else
        if v2 ≤ 60 then
          (gR z h 11 v0 12).bind fun a6 =>
          (gR z h 11 v0 3).bind fun a7 =>
          (gR z h 11 v0 4).bind fun a8 =>
          (f_X10_about n z h a6 a7 a8 v1).bind fun h9 =>
          (gR z h9 11 v0 14).bind fun a10 =>
          (f_X0_hopeDoing n z h9 a10 v2).bind fun (x11, h12, z13) =>
          gd3 z13 <|
          some (x11, h12, z13)
        else
          f_X11_hoping_26 n z h
  else none
theorem k_X11_hoping {n : Nat} {z : Sh} {h : Hp} {v0 : Nat} {v1 : Int32} {v2 : Int32} {w : Int32 × Hp × Sh} (hf : f_X11_hoping n z h v0 v1 v2 = some w) : z.K v0 = 11 := by
  unfold f_X11_hoping at hf
  exact (if_some hf).1
theorem mo_X11_hoping {n : Nat} {z : Sh} {h : Hp} {v0 : Nat} {v1 : Int32} {v2 : Int32} {r : Int32} {h' : Hp} {zE : Sh} (hf : f_X11_hoping n z h v0 v1 v2 = some (r, h', zE)) : z.sz ≤ zE.sz ∧ z.sl ≤ zE.sl := by
  unfold f_X11_hoping at hf
  exact (gd3_some (if_some hf).2).1
set_option maxHeartbeats 4000000 in
theorem w_X11_hoping_26 {p : Program} {l : Launch} {e : Env} {s : State} {m : MethodId} {args : Array Value} {below : List Frame} {meth : Method} {c : Code} {s0 : State} {E : Ev} {z0 : Sh} {n : Nat} {r : Int32} {h' : Hp} {zE : Sh} (G : Gl s0 E) (B : Bd p s0 s E m c cX11_hoping 3 RX11) (hr : meth.sig.returnType = (some .int)) (hlk : meth.locks = false) : ∀ (z : Sh) (h : Hp) (H : Heap) (locs : List Loc) (ls : Array Slot), Pw s0 s E z h H locs → Mo s0 s z0 z zE → lv_has ls 3 [] → f_X11_hoping_26 n z h = some (r, h', zE) → W p l e (rmA 69 3796 z0 zE) s m args below meth c H locs (z.sz - z0.sz) (z.sl - z0.sl) (Zt below s0 E zE h' (some (.int r)) args s (zE.sz - z0.sz) (zE.sl - z0.sl)) (F0 m 26 ls []) := by
  have hx := B.1
  have hb := B.2.1
  intro z h H locs ls hw hM hl hf
  unfold f_X11_hoping_26 at hf
  refine lv_iconst (v := 3) hx hb dX11_hoping_26 (by decide) ?_
  obtain ⟨x1, e, hf⟩ := ob hf
  refine q_callS (As := [.int 3]) (rest := []) (st1 := [.int x1]) (c_X11_refused G e) B hw hM.hz hM.hc0 my_X11_refused mv_X11_refused tw_2_155 ⟨Nat.le_of_ble_eq_true rfl, Nat.le_of_ble_eq_true rfl⟩ hM.hcs rfl hl.1 rfl rfl (Nat.le_of_ble_eq_true rfl) dX11_hoping_27 (fun H locs hw => ?_)
  obtain ⟨rfl, rfl, rfl⟩ := so3 hf
  exact q_iret B hw hM.hz hM.hc0 hr hlk dX11_hoping_30
set_option maxHeartbeats 4000000 in
theorem c_X11_hoping {l : Launch} {s0 : State} {E : Ev} (G : Gl s0 E) {n : Nat} {z : Sh} {h : Hp} {v0 : Nat} {v1 : Int32} {v2 : Int32} {r : Int32} {h' : Hp} {zE : Sh} (hf : f_X11_hoping n z h v0 v1 v2 = some (r, h', zE)) : Ca l s0 E yX11_hoping cX11_hoping 3 (some .int) 69 3796 [.ref v0, .int v1, .int v2] z zE h h' (some (.int r)) := by
  refine Ca.of G (by decide +kernel) (Nat.le_of_ble_eq_true rfl) (mo_X11_hoping hf) ?_
  intro p e s m below meth c ls B hw hM hr hlk hnm0 hl
  have B : Bd p s0 s E m c cX11_hoping 3 RX11 := B
  have hx := B.1
  have hb := B.2.1
  have hl : lv_has ls 3 [(0, .ref v0), (1, .int v1), (2, .int v2)] := hl
  unfold f_X11_hoping at hf
  obtain ⟨_, hf⟩ := if_some hf
  obtain ⟨_, hf⟩ := gd3_some hf
  refine lv_aload_n hx hb dX11_hoping_0 rfl (lv_at hl 0 rfl) ?_
  obtain ⟨a1, e, hf⟩ := ob hf
  refine q_getR e B hw fd_11_4.1 fd_11_4.2.1 fd_11_4.2.2.1 fd_11_4.2.2.2.1 fd_11_4.2.2.2.2 rfl tw_2_106 dX11_hoping_1 ?_
  refine lv_iload_n hx hb dX11_hoping_4 rfl (lv_at hl 1 rfl) ?_
  obtain ⟨x2, e, hf⟩ := ob hf
  refine q_callVN (As := [.int v1]) (rest := []) (st1 := [.int x2]) (c_X5_has G e) B hw hM.hz hM.hc0 (k_X5_has e) (by decide) (ci := 5) rfl rfl my_X5_has mv_X5_has tw_3_214 ⟨Nat.le_of_ble_eq_true rfl, Nat.le_of_ble_eq_true rfl⟩ hM.hcs rfl hl.1 rfl rfl (Nat.le_of_ble_eq_true rfl) dX11_hoping_5 (fun H locs hw => ?_)
  refine lv_if_ne (tgt := 16) hx hb dX11_hoping_8 (by decide) (fun c3 => ?_) (fun c3 => ?_)
  · have hf := (if_neg c3).symm.trans hf
    refine lv_iload_n hx hb dX11_hoping_16 rfl (lv_at hl 2 rfl) ?_
    refine lv_if_lt (tgt := 26) hx hb dX11_hoping_17 (by decide) (fun c4 => ?_) (fun c4 => ?_)
    · have hf := (if_pos c4).symm.trans hf
      exact w_X11_hoping_26 G B hr hlk  z h _ _ _ hw hM (lv_sub hl [] rfl) hf
    · have hf := (if_neg c4).symm.trans hf
      refine lv_iload_n hx hb dX11_hoping_20 rfl (lv_at hl 2 rfl) ?_
      refine lv_bipush (v := 60) hx hb dX11_hoping_21 (by decide) ?_
      refine lv_icmp_le (tgt := 31) hx hb dX11_hoping_23 (by decide) (fun c5 => ?_) (fun c5 => ?_)
      · have hf := (if_pos c5).symm.trans hf
        refine lv_aload_n hx hb dX11_hoping_31 rfl (lv_at hl 0 rfl) ?_
        obtain ⟨a6, e, hf⟩ := ob hf
        refine q_getR e B hw fd_11_12.1 fd_11_12.2.1 fd_11_12.2.2.1 fd_11_12.2.2.2.1 fd_11_12.2.2.2.2 rfl tw_2_114 dX11_hoping_32 ?_
        refine lv_aload_n hx hb dX11_hoping_35 rfl (lv_at hl 0 rfl) ?_
        obtain ⟨a7, e, hf⟩ := ob hf
        refine q_getR e B hw fd_11_3.1 fd_11_3.2.1 fd_11_3.2.2.1 fd_11_3.2.2.2.1 fd_11_3.2.2.2.2 rfl tw_2_105 dX11_hoping_36 ?_
        refine lv_aload_n hx hb dX11_hoping_39 rfl (lv_at hl 0 rfl) ?_
        obtain ⟨a8, e, hf⟩ := ob hf
        refine q_getR e B hw fd_11_4.1 fd_11_4.2.1 fd_11_4.2.2.1 fd_11_4.2.2.2.1 fd_11_4.2.2.2.2 rfl tw_2_106 dX11_hoping_40 ?_
        refine lv_iload_n hx hb dX11_hoping_43 rfl (lv_at hl 1 rfl) ?_
        obtain ⟨h9, e, hf⟩ := ob hf
        refine q_callVN (As := [.ref a7, .ref a8, .int v1]) (rest := []) (st1 := []) (c_X10_about G e) B hw hM.hz hM.hc0 (k_X10_about e) (by decide) (ci := 10) rfl rfl my_X10_about mv_X10_about tw_4_157 ⟨Nat.le_of_ble_eq_true rfl, Nat.le_of_ble_eq_true rfl⟩ hM.hcs rfl hl.1 rfl rfl (Nat.le_of_ble_eq_true rfl) dX11_hoping_44 (fun H locs hw => ?_)
        refine lv_aload_n hx hb dX11_hoping_47 rfl (lv_at hl 0 rfl) ?_
        obtain ⟨a10, e, hf⟩ := ob hf
        refine q_getR e B hw fd_11_14.1 fd_11_14.2.1 fd_11_14.2.2.1 fd_11_14.2.2.2.1 fd_11_14.2.2.2.2 rfl tw_2_116 dX11_hoping_48 ?_
        refine lv_iload_n hx hb dX11_hoping_51 rfl (lv_at hl 2 rfl) ?_
        obtain ⟨⟨x11, h12, z13⟩, e, hf⟩ := ob hf
        obtain ⟨hg, hf⟩ := gd3_some hf
        refine q_callVNA (As := [.int v2]) (rest := []) (st1 := [.int x11]) (c_X0_hopeDoing G e) (mo_X0_hopeDoing e) hg B hw hM (k_X0_hopeDoing e) (by decide) (ci := 0) rfl rfl my_X0_hopeDoing mv_X0_hopeDoing tw_5_145 ⟨Nat.le_of_ble_eq_true rfl, Nat.le_of_ble_eq_true rfl⟩ rfl hl.1 rfl rfl (Nat.le_of_ble_eq_true rfl) dX11_hoping_52 (fun H locs hw hM => ?_)
        obtain ⟨rfl, rfl, rfl⟩ := so3 hf
        exact q_iret B hw hM.hz hM.hc0 hr hlk dX11_hoping_55
      · have hf := (if_neg c5).symm.trans hf
        exact w_X11_hoping_26 G B hr hlk  z h _ _ _ hw hM (lv_sub hl [] rfl) hf
  · have hf := (if_pos c3).symm.trans hf
    refine lv_iconst (v := 2) hx hb dX11_hoping_11 (by decide) ?_
    obtain ⟨x14, e, hf⟩ := ob hf
    refine q_callS (As := [.int 2]) (rest := []) (st1 := [.int x14]) (c_X11_refused G e) B hw hM.hz hM.hc0 my_X11_refused mv_X11_refused tw_2_155 ⟨Nat.le_of_ble_eq_true rfl, Nat.le_of_ble_eq_true rfl⟩ hM.hcs rfl hl.1 rfl rfl (Nat.le_of_ble_eq_true rfl) dX11_hoping_12 (fun H locs hw => ?_)
    obtain ⟨rfl, rfl, rfl⟩ := so3 hf
    exact q_iret B hw hM.hz hM.hc0 hr hlk dX11_hoping_15
/-! SecondLife$Reader.endLine()Z -/
def f_X6_endLine (n : Nat) (z : Sh) (h : Hp) (v0 : Nat) : Option (Int32 × Hp) :=
  if z.K v0 = 6 then
    (gR z h 6 v0 8).bind fun a1 =>
    (gI z h 8 a1 5).bind fun x2 =>
    (pI z h 8 a1 5 (x2 + 1)).bind fun h3 =>
    (f_X6_take n z h3 v0 (z.st 14)).bind fun (x4, h5) =>
    (bz x4).bind fun x6 =>
    some (x6, h5)
  else none
theorem k_X6_endLine {n : Nat} {z : Sh} {h : Hp} {v0 : Nat} {w : Int32 × Hp} (hf : f_X6_endLine n z h v0 = some w) : z.K v0 = 6 := by
  unfold f_X6_endLine at hf
  exact (if_some hf).1
set_option maxHeartbeats 4000000 in
theorem c_X6_endLine {l : Launch} {s0 : State} {E : Ev} (G : Gl s0 E) {n : Nat} {z : Sh} {h : Hp} {v0 : Nat} {r : Int32} {h' : Hp} (hf : f_X6_endLine n z h v0 = some (r, h')) : Ct l s0 E yX6_endLine cX6_endLine 1 (some .boolean) 6 133 [.ref v0] z h h' (some (.int r)) := by
  refine Ct.of G (by decide) (Nat.le_of_ble_eq_true rfl) ?_
  intro p e s m below meth c ls B hw hz hc0 hr hlk hl
  have B : Bd p s0 s E m c cX6_endLine 1 RX6 := B
  have hx := B.1
  have hb := B.2.1
  have hl : lv_has ls 1 [(0, .ref v0)] := hl
  unfold f_X6_endLine at hf
  obtain ⟨_, hf⟩ := if_some hf
  refine lv_aload_n hx hb dX6_endLine_0 rfl (lv_at hl 0 rfl) ?_
  obtain ⟨a1, e, hf⟩ := ob hf
  refine q_getR e B hw fd_6_8.1 fd_6_8.2.1 fd_6_8.2.2.1 fd_6_8.2.2.2.1 fd_6_8.2.2.2.2 rfl tw_1_113 dX6_endLine_1 ?_
  refine lv_dup hx hb dX6_endLine_4 rfl ?_
  obtain ⟨x2, e, hf⟩ := ob hf
  refine q_getIN e B hw fd_8_5.1 fd_8_5.2.1 fd_8_5.2.2.1 fd_8_5.2.2.2.1 fd_8_5.2.2.2.2 rfl tw_1_71 dX6_endLine_5 ?_
  refine lv_iconst (v := 1) hx hb dX6_endLine_8 (by decide) ?_
  refine lv_iadd hx hb dX6_endLine_9 ?_
  obtain ⟨h3, e, hf⟩ := ob hf
  refine q_putIN e B hw fd_8_5.1 fd_8_5.2.1 fd_8_5.2.2.1 fd_8_5.2.2.2.1 fd_8_5.2.2.2.2 rfl rfl (tyX8_ok 5 (by decide)) tyX8 tyX8_ok nmX8 tw_1_71 dX6_endLine_10 (fun H locs hw => ?_)
  refine lv_aload_n hx hb dX6_endLine_13 rfl (lv_at hl 0 rfl) ?_
  refine q_ldcS (tx := ";") G (i := 14) (List.mem_of_getElem? (i := 4) (by decide +kernel)) B hw dX6_endLine_14 ?_
  obtain ⟨⟨x4, h5⟩, e, hf⟩ := ob hf
  refine q_callV (As := [.ref (z.st 14)]) (rest := []) (st1 := [.int x4]) (c_X6_take G e) B hw hz hc0 (k_X6_take e) (by decide) (ci := 6) rfl rfl my_X6_take mv_X6_take tw_3_42 ⟨Nat.le_of_ble_eq_true rfl, Nat.le_of_ble_eq_true rfl⟩ ⟨Nat.zero_le _, Nat.zero_le _⟩ rfl hl.1 rfl rfl (Nat.le_of_ble_eq_true rfl) dX6_endLine_16 (fun H locs hw => ?_)
  obtain ⟨x6, e, hf⟩ := ob hf
  obtain ⟨e1, e⟩ := if_some e
  cases e
  obtain ⟨rfl, rfl⟩ := so2 hf
  exact q_zret e1 B hw hz hc0 hr hlk dX6_endLine_19
