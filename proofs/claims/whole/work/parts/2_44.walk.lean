/-! SecondLife$Reader.read([BI)LSecondLife$Town; -/
def f_X6_read_77 (n : Nat)  (z : Sh) (h : Hp) (v0 : Nat) (v3 : Int32) : Option (Option Nat × Hp × Sh) :=
  if v3 = 0 then
    some (none, h, z)
  else
    (gR z h 6 v0 8).bind fun a2 =>
    some ((some a2), h, z)
def f_X6_read_48 (n : Nat)  : Nat → Sh → Hp → Nat → Int32 → Int32 → Int32 → Option (Option Nat × Hp × Sh)
  | 0, _, _, _, _, _, _ => none
  | i + 1, z, h, v0, v2, v3, v4 =>
    if v2 ≤ v4 then
      f_X6_read_77 n z h v0 v3
    else
      if v3 = 0 then
        f_X6_read_77 n z h v0 v3
      else
        (gI z h 6 v0 6).bind fun x3 =>
        if x3 = 3 then
          f_X6_read_77 n z h v0 v3
        else
          (f_X6_readLine n z h v0).bind fun (x5, h6, z7) =>
          gd3 z7 <|
          (some (v4 + 1)).bind fun x8 =>
          (f_X6_read_48 n i) z7 h6 v0 v2 x5 x8
def f_X6_read (n : Nat) (z : Sh) (h : Hp) (v0 : Nat) (v1 : Nat) (v2 : Int32) : Option (Option Nat × Hp × Sh) :=
  if z.K v0 = 6 then
    gd3 z <|
    (pR z h 6 v0 2 (some v1)).bind fun h1 =>
    (pI z h1 6 v0 3 v2).bind fun h2 =>
    (pI z h2 6 v0 5 0).bind fun h3 =>
    (pI z h3 6 v0 0 0).bind fun h4 =>
    (pI z h4 6 v0 1 (-1)).bind fun h5 =>
    (nwO z h5 8).bind fun (a6, h7, z8) =>
    gd3 z8 <|
    (f_X8_init z8 h7 a6).bind fun (h9, z10) =>
    gd3 z10 <|
    (pR z10 h9 6 v0 8 (some a6)).bind fun h11 =>
    (f_X6_next n z10 h11 v0).bind fun h12 =>
    (f_X6_readHead n z10 h12 v0).bind fun (x13, h14) =>
    f_X6_read_48 n n z10 h14 v0 v2 x13 0
  else none
theorem k_X6_read {n : Nat} {z : Sh} {h : Hp} {v0 : Nat} {v1 : Nat} {v2 : Int32} {w : Option Nat × Hp × Sh} (hf : f_X6_read n z h v0 v1 v2 = some w) : z.K v0 = 6 := by
  unfold f_X6_read at hf
  exact (if_some hf).1
theorem mo_X6_read {n : Nat} {z : Sh} {h : Hp} {v0 : Nat} {v1 : Nat} {v2 : Int32} {r : Option Nat} {h' : Hp} {zE : Sh} (hf : f_X6_read n z h v0 v1 v2 = some (r, h', zE)) : z.sz ≤ zE.sz ∧ z.sl ≤ zE.sl := by
  unfold f_X6_read at hf
  exact (gd3_some (if_some hf).2).1
set_option maxHeartbeats 4000000 in
theorem w_X6_read_77 {p : Program} {l : Launch} {e : Env} {s : State} {m : MethodId} {args : Array Value} {below : List Frame} {meth : Method} {c : Code} {s0 : State} {E : Ev} {z0 : Sh} {n : Nat} {r : Option Nat} {h' : Hp} {zE : Sh} (G : Gl s0 E) (B : Bd p s0 s E m c cX6_read 5 RX6) (hr : meth.sig.returnType = (some (.object "SecondLife$Town"))) (hlk : meth.locks = false) : ∀ (z : Sh) (h : Hp) (v0 : Nat) (v3 : Int32) (H : Heap) (locs : List Loc) (ls : Array Slot), Pw s0 s E z h H locs → Mo s0 s z0 z zE → lv_has ls 5 [(0, .ref v0), (3, .int v3)] → f_X6_read_77 n z h v0 v3 = some (r, h', zE) → W p l e (rmA 70 3796 z0 zE) s m args below meth c H locs (z.sz - z0.sz) (z.sl - z0.sl) (Zt below s0 E zE h' (some (va_rf r)) args s (zE.sz - z0.sz) (zE.sl - z0.sl)) (F0 m 77 ls []) := by
  have hx := B.1
  have hb := B.2.1
  intro z h v0 v3 H locs ls hw hM hl hf
  unfold f_X6_read_77 at hf
  refine lv_iload_n hx hb dX6_read_77 rfl (lv_at hl 1 rfl) ?_
  refine lv_if_eq (tgt := 88) hx hb dX6_read_78 (by decide) (fun c1 => ?_) (fun c1 => ?_)
  · have hf := (if_pos c1).symm.trans hf
    refine lv_null hx hb dX6_read_88 ?_
    obtain ⟨rfl, rfl, rfl⟩ := so3 hf
    exact q_aret (Or.inl ⟨_, rfl⟩) (Or.inl rfl) B hw hM.hz hM.hc0 hr hlk dX6_read_89
  · have hf := (if_neg c1).symm.trans hf
    refine lv_aload_n hx hb dX6_read_81 rfl (lv_at hl 0 rfl) ?_
    obtain ⟨a2, e, hf⟩ := ob hf
    refine q_getR e B hw fd_6_8.1 fd_6_8.2.1 fd_6_8.2.2.1 fd_6_8.2.2.2.1 fd_6_8.2.2.2.2 rfl tw_1_113 dX6_read_82 ?_
    refine lv_goto (tgt := 89) hx hb dX6_read_85 (by decide) ?_
    obtain ⟨rfl, rfl, rfl⟩ := so3 hf
    exact q_aret (Or.inl ⟨_, rfl⟩) (Or.inr ⟨_, rfl⟩) B hw hM.hz hM.hc0 hr hlk dX6_read_89
set_option maxHeartbeats 4000000 in
theorem w_X6_read_48 {p : Program} {l : Launch} {e : Env} {s : State} {m : MethodId} {args : Array Value} {below : List Frame} {meth : Method} {c : Code} {s0 : State} {E : Ev} {z0 : Sh} {n : Nat} {r : Option Nat} {h' : Hp} {zE : Sh} (G : Gl s0 E) (B : Bd p s0 s E m c cX6_read 5 RX6) (hr : meth.sig.returnType = (some (.object "SecondLife$Town"))) (hlk : meth.locks = false) : ∀ (i : Nat), ∀ (z : Sh) (h : Hp) (v0 : Nat) (v2 : Int32) (v3 : Int32) (v4 : Int32) (H : Heap) (locs : List Loc) (ls : Array Slot), Pw s0 s E z h H locs → Mo s0 s z0 z zE → lv_has ls 5 [(0, .ref v0), (2, .int v2), (3, .int v3), (4, .int v4)] → f_X6_read_48 n i z h v0 v2 v3 v4 = some (r, h', zE) → W p l e (rmA 70 3796 z0 zE) s m args below meth c H locs (z.sz - z0.sz) (z.sl - z0.sl) (Zt below s0 E zE h' (some (va_rf r)) args s (zE.sz - z0.sz) (zE.sl - z0.sl)) (F0 m 48 ls []) := by
  have hx := B.1
  have hb := B.2.1
  intro i
  induction i with
  | zero =>
    intro z h v0 v2 v3 v4 H locs ls hw hM hl hf
    have hf := (f_X6_read_48.eq_1 ..).symm.trans hf
    cases hf
  | succ i ih =>
    intro z h v0 v2 v3 v4 H locs ls hw hM hl hf
    have hf := (f_X6_read_48.eq_2 ..).symm.trans hf
    refine lv_iload hx hb dX6_read_48 (lv_at hl 3 rfl) ?_
    refine lv_iload_n hx hb dX6_read_50 rfl (lv_at hl 1 rfl) ?_
    refine lv_icmp_ge (tgt := 77) hx hb dX6_read_51 (by decide) (fun c1 => ?_) (fun c1 => ?_)
    · have hf := (if_pos c1).symm.trans hf
      exact w_X6_read_77 G B hr hlk  z h v0 v3 _ _ _ hw hM (lv_sub hl [0, 2] rfl) hf
    · have hf := (if_neg c1).symm.trans hf
      refine lv_iload_n hx hb dX6_read_54 rfl (lv_at hl 2 rfl) ?_
      refine lv_if_eq (tgt := 77) hx hb dX6_read_55 (by decide) (fun c2 => ?_) (fun c2 => ?_)
      · have hf := (if_pos c2).symm.trans hf
        exact w_X6_read_77 G B hr hlk  z h v0 v3 _ _ _ hw hM (lv_sub hl [0, 2] rfl) hf
      · have hf := (if_neg c2).symm.trans hf
        refine lv_aload_n hx hb dX6_read_58 rfl (lv_at hl 0 rfl) ?_
        obtain ⟨x3, e, hf⟩ := ob hf
        refine q_getI e B hw fd_6_6.1 fd_6_6.2.1 fd_6_6.2.2.1 fd_6_6.2.2.2.1 fd_6_6.2.2.2.2 rfl tw_1_111 dX6_read_59 ?_
        refine lv_iconst (v := 3) hx hb dX6_read_62 (by decide) ?_
        refine lv_icmp_eq (tgt := 77) hx hb dX6_read_63 (by decide) (fun c4 => ?_) (fun c4 => ?_)
        · have hf := (if_pos c4).symm.trans hf
          exact w_X6_read_77 G B hr hlk  z h v0 v3 _ _ _ hw hM (lv_sub hl [0, 2] rfl) hf
        · have hf := (if_neg c4).symm.trans hf
          refine lv_aload_n hx hb dX6_read_66 rfl (lv_at hl 0 rfl) ?_
          obtain ⟨⟨x5, h6, z7⟩, e, hf⟩ := ob hf
          obtain ⟨hg, hf⟩ := gd3_some hf
          refine q_callVA (As := []) (rest := []) (st1 := [.int x5]) (c_X6_readLine G e) (mo_X6_readLine e) hg B hw hM (k_X6_readLine e) (by decide) (ci := 6) rfl rfl my_X6_readLine mv_X6_readLine tw_3_86 ⟨Nat.le_of_ble_eq_true rfl, Nat.le_of_ble_eq_true rfl⟩ rfl hl.1 rfl rfl (Nat.le_of_ble_eq_true rfl) dX6_read_67 (fun H locs hw hM => ?_)
          refine lv_istore_n (lv' := [(3, .int x5), (0, .ref v0), (2, .int v2), (4, .int v4)]) hx hb dX6_read_70 rfl hl (by decide) rfl (fun ls hl => ?_)
          obtain ⟨x8, e, hf⟩ := ob hf
          refine lv_iinc (v := x8) (lv' := [(4, .int x8), (3, .int x5), (0, .ref v0), (2, .int v2)]) hx hb dX6_read_71 hl (k := 3) rfl (Option.some.inj e) (by decide) rfl (fun ls hl => ?_)
          refine lv_goto (tgt := 48) hx hb dX6_read_74 (by decide) ?_
          exact ih z7 h6 v0 v2 x5 x8 _ _ _ hw hM (lv_sub hl [2, 3, 1, 0] rfl) hf
set_option maxHeartbeats 4000000 in
theorem c_X6_read {l : Launch} {s0 : State} {E : Ev} (G : Gl s0 E) {n : Nat} {z : Sh} {h : Hp} {v0 : Nat} {v1 : Nat} {v2 : Int32} {r : Option Nat} {h' : Hp} {zE : Sh} (hf : f_X6_read n z h v0 v1 v2 = some (r, h', zE)) : Ca l s0 E yX6_read cX6_read 5 (some (.object "SecondLife$Town")) 70 3796 [.ref v0, .ref v1, .int v2] z zE h h' (some (va_rf r)) := by
  refine Ca.of G (by decide +kernel) (Nat.le_of_ble_eq_true rfl) (mo_X6_read hf) ?_
  intro p e s m below meth c ls B hw hM hr hlk hnm0 hl
  have B : Bd p s0 s E m c cX6_read 5 RX6 := B
  have hx := B.1
  have hb := B.2.1
  have hl : lv_has ls 5 [(0, .ref v0), (1, .ref v1), (2, .int v2)] := hl
  unfold f_X6_read at hf
  obtain ⟨_, hf⟩ := if_some hf
  obtain ⟨_, hf⟩ := gd3_some hf
  refine lv_aload_n hx hb dX6_read_0 rfl (lv_at hl 0 rfl) ?_
  refine lv_aload_n hx hb dX6_read_1 rfl (lv_at hl 1 rfl) ?_
  obtain ⟨h1, e, hf⟩ := ob hf
  refine q_putR e B hw fd_6_2.1 fd_6_2.2.1 fd_6_2.2.2.1 fd_6_2.2.2.2.1 fd_6_2.2.2.2.2 rfl rfl (tyX6_ok 2 (by decide)) (Or.inr ⟨_, rfl⟩) tyX6 tyX6_ok nmX6 tw_1_107 dX6_read_2 (fun H locs hw => ?_)
  refine lv_aload_n hx hb dX6_read_5 rfl (lv_at hl 0 rfl) ?_
  refine lv_iload_n hx hb dX6_read_6 rfl (lv_at hl 2 rfl) ?_
  obtain ⟨h2, e, hf⟩ := ob hf
  refine q_putI e B hw fd_6_3.1 fd_6_3.2.1 fd_6_3.2.2.1 fd_6_3.2.2.2.1 fd_6_3.2.2.2.2 rfl rfl (tyX6_ok 3 (by decide)) tyX6 tyX6_ok nmX6 tw_1_108 dX6_read_7 (fun H locs hw => ?_)
  refine lv_aload_n hx hb dX6_read_10 rfl (lv_at hl 0 rfl) ?_
  refine lv_iconst (v := 0) hx hb dX6_read_11 (by decide) ?_
  obtain ⟨h3, e, hf⟩ := ob hf
  refine q_putI e B hw fd_6_5.1 fd_6_5.2.1 fd_6_5.2.2.1 fd_6_5.2.2.2.1 fd_6_5.2.2.2.2 rfl rfl (tyX6_ok 5 (by decide)) tyX6 tyX6_ok nmX6 tw_1_110 dX6_read_12 (fun H locs hw => ?_)
  refine lv_aload_n hx hb dX6_read_15 rfl (lv_at hl 0 rfl) ?_
  refine lv_iconst (v := 0) hx hb dX6_read_16 (by decide) ?_
  obtain ⟨h4, e, hf⟩ := ob hf
  refine q_putI e B hw fd_6_0.1 fd_6_0.2.1 fd_6_0.2.2.1 fd_6_0.2.2.2.1 fd_6_0.2.2.2.2 rfl rfl (tyX6_ok 0 (by decide)) tyX6 tyX6_ok nmX6 tw_1_103 dX6_read_17 (fun H locs hw => ?_)
  refine lv_aload_n hx hb dX6_read_20 rfl (lv_at hl 0 rfl) ?_
  refine lv_iconst (v := (-1)) hx hb dX6_read_21 (by decide) ?_
  obtain ⟨h5, e, hf⟩ := ob hf
  refine q_putI e B hw fd_6_1.1 fd_6_1.2.1 fd_6_1.2.2.1 fd_6_1.2.2.2.1 fd_6_1.2.2.2.2 rfl rfl (tyX6_ok 1 (by decide)) tyX6 tyX6_ok nmX6 tw_1_105 dX6_read_22 (fun H locs hw => ?_)
  refine lv_aload_n hx hb dX6_read_25 rfl (lv_at hl 0 rfl) ?_
  obtain ⟨⟨a6, h7, z8⟩, e, hf⟩ := ob hf
  obtain ⟨hg, hf⟩ := gd3_some hf
  refine q_newO e hg B hw hM (by decide) (ci := 8) rfl rfl tyX8 tyX8_ok dfX8 tw_1_37 tw_1_38 tw_1_3 dX6_read_26 (fun H locs hw hM => ?_)
  refine lv_dup hx hb dX6_read_29 rfl ?_
  obtain ⟨⟨h9, z10⟩, e, hf⟩ := ob hf
  obtain ⟨hg, hf⟩ := gd3_some hf
  refine q_callINA (As := []) (rest := [.ref a6, .ref v0]) (c_X8_init G e) (mo_X8_init e) hg B hw hM rfl my_X8_init mv_X8_init tw_1_39 ⟨Nat.le_of_ble_eq_true rfl, Nat.le_of_ble_eq_true rfl⟩ rfl hl.1 rfl (Nat.le_of_ble_eq_true rfl) dX6_read_30 (fun H locs hw hM => ?_)
  obtain ⟨h11, e, hf⟩ := ob hf
  refine q_putR e B hw fd_6_8.1 fd_6_8.2.1 fd_6_8.2.2.1 fd_6_8.2.2.2.1 fd_6_8.2.2.2.2 rfl rfl (tyX6_ok 8 (by decide)) (Or.inl ⟨_, rfl⟩) tyX6 tyX6_ok nmX6 tw_1_113 dX6_read_33 (fun H locs hw => ?_)
  refine lv_aload_n hx hb dX6_read_36 rfl (lv_at hl 0 rfl) ?_
  obtain ⟨h12, e, hf⟩ := ob hf
  refine q_callV (As := []) (rest := []) (st1 := []) (c_X6_next G e) B hw hM.hz hM.hc0 (k_X6_next e) (by decide) (ci := 6) rfl rfl my_X6_next mv_X6_next tw_2_171 ⟨Nat.le_of_ble_eq_true rfl, Nat.le_of_ble_eq_true rfl⟩ hM.hcs rfl hl.1 rfl rfl (Nat.le_of_ble_eq_true rfl) dX6_read_37 (fun H locs hw => ?_)
  refine lv_aload_n hx hb dX6_read_40 rfl (lv_at hl 0 rfl) ?_
  obtain ⟨⟨x13, h14⟩, e, hf⟩ := ob hf
  refine q_callV (As := []) (rest := []) (st1 := [.int x13]) (c_X6_readHead G e) B hw hM.hz hM.hc0 (k_X6_readHead e) (by decide) (ci := 6) rfl rfl my_X6_readHead mv_X6_readHead tw_3_37 ⟨Nat.le_of_ble_eq_true rfl, Nat.le_of_ble_eq_true rfl⟩ hM.hcs rfl hl.1 rfl rfl (Nat.le_of_ble_eq_true rfl) dX6_read_41 (fun H locs hw => ?_)
  refine lv_istore_n (lv' := [(3, .int x13), (0, .ref v0), (1, .ref v1), (2, .int v2)]) hx hb dX6_read_44 rfl hl (by decide) rfl (fun ls hl => ?_)
  refine lv_iconst (v := 0) hx hb dX6_read_45 (by decide) ?_
  refine lv_istore (lv' := [(4, .int 0), (3, .int x13), (0, .ref v0), (1, .ref v1), (2, .int v2)]) hx hb dX6_read_46 hl (by decide) rfl (fun ls hl => ?_)
  exact w_X6_read_48 G B hr hlk  n z10 h14 v0 v2 x13 0 _ _ _ hw hM (lv_sub hl [2, 4, 1, 0] rfl) hf
/-! SecondLife.town(I)I -/
def f_X11_town_12 (n : Nat)  (z : Sh) (h : Hp) : Option (Int32 × Hp × Sh) :=
  (f_X11_refused z h 3).bind fun x1 =>
  some (x1, h, z)
def f_X11_town (n : Nat) (z : Sh) (h : Hp) (v0 : Nat) (v1 : Int32) : Option (Int32 × Hp × Sh) :=
  if z.K v0 = 11 then
    gd3 z <|
    if v1 < 0 then
      f_X11_town_12 n z h
    else
      (gI z h 11 v0 1).bind fun x2 =>
      if v1 ≤ x2 then
        (pI z h 11 v0 1 0).bind fun h4 =>
        (gR z h4 11 v0 2).bind fun a5 =>
        (gR z h4 11 v0 0).bind fun a6 =>
        (f_X6_read n z h4 a5 a6 v1).bind fun (o7, h8, z9) =>
        gd3 z9 <|
        (match o7 with
        | none =>
          (gR z9 h8 11 v0 2).bind fun a11 =>
          (gI z9 h8 6 a11 0).bind fun x12 =>
          (f_X11_refused z9 h8 (30 + x12)).bind fun x13 =>
          some (x13, h8, z9)
        | some a10 =>
          (pR z9 h8 11 v0 3 (some a10)).bind fun h14 =>
          (gR z9 h14 11 v0 4).bind fun a15 =>
          (f_X5_settle n z9 h14 a15 a10).bind fun h16 =>
          (gR z9 h16 11 v0 6).bind fun a17 =>
          (f_X4_forget z9 h16 a17).bind fun h18 =>
          (gI z9 h18 8 a10 5).bind fun x19 =>
          some (x19, h18, z9))
      else
        f_X11_town_12 n z h
  else none
theorem k_X11_town {n : Nat} {z : Sh} {h : Hp} {v0 : Nat} {v1 : Int32} {w : Int32 × Hp × Sh} (hf : f_X11_town n z h v0 v1 = some w) : z.K v0 = 11 := by
  unfold f_X11_town at hf
  exact (if_some hf).1
theorem mo_X11_town {n : Nat} {z : Sh} {h : Hp} {v0 : Nat} {v1 : Int32} {r : Int32} {h' : Hp} {zE : Sh} (hf : f_X11_town n z h v0 v1 = some (r, h', zE)) : z.sz ≤ zE.sz ∧ z.sl ≤ zE.sl := by
  unfold f_X11_town at hf
  exact (gd3_some (if_some hf).2).1
set_option maxHeartbeats 4000000 in
theorem w_X11_town_12 {p : Program} {l : Launch} {e : Env} {s : State} {m : MethodId} {args : Array Value} {below : List Frame} {meth : Method} {c : Code} {s0 : State} {E : Ev} {z0 : Sh} {n : Nat} {r : Int32} {h' : Hp} {zE : Sh} (G : Gl s0 E) (B : Bd p s0 s E m c cX11_town 3 RX11) (hr : meth.sig.returnType = (some .int)) (hlk : meth.locks = false) : ∀ (z : Sh) (h : Hp) (H : Heap) (locs : List Loc) (ls : Array Slot), Pw s0 s E z h H locs → Mo s0 s z0 z zE → lv_has ls 3 [] → f_X11_town_12 n z h = some (r, h', zE) → W p l e (rmA 71 3820 z0 zE) s m args below meth c H locs (z.sz - z0.sz) (z.sl - z0.sl) (Zt below s0 E zE h' (some (.int r)) args s (zE.sz - z0.sz) (zE.sl - z0.sl)) (F0 m 12 ls []) := by
  have hx := B.1
  have hb := B.2.1
  intro z h H locs ls hw hM hl hf
  unfold f_X11_town_12 at hf
  refine lv_iconst (v := 3) hx hb dX11_town_12 (by decide) ?_
  obtain ⟨x1, e, hf⟩ := ob hf
  refine q_callS (As := [.int 3]) (rest := []) (st1 := [.int x1]) (c_X11_refused G e) B hw hM.hz hM.hc0 my_X11_refused mv_X11_refused tw_2_155 ⟨Nat.le_of_ble_eq_true rfl, Nat.le_of_ble_eq_true rfl⟩ hM.hcs rfl hl.1 rfl rfl (Nat.le_of_ble_eq_true rfl) dX11_town_13 (fun H locs hw => ?_)
  obtain ⟨rfl, rfl, rfl⟩ := so3 hf
  exact q_iret B hw hM.hz hM.hc0 hr hlk dX11_town_16
set_option maxHeartbeats 4000000 in
theorem c_X11_town {l : Launch} {s0 : State} {E : Ev} (G : Gl s0 E) {n : Nat} {z : Sh} {h : Hp} {v0 : Nat} {v1 : Int32} {r : Int32} {h' : Hp} {zE : Sh} (hf : f_X11_town n z h v0 v1 = some (r, h', zE)) : Ca l s0 E yX11_town cX11_town 3 (some .int) 71 3820 [.ref v0, .int v1] z zE h h' (some (.int r)) := by
  refine Ca.of G (by decide +kernel) (Nat.le_of_ble_eq_true rfl) (mo_X11_town hf) ?_
  intro p e s m below meth c ls B hw hM hr hlk hnm0 hl
  have B : Bd p s0 s E m c cX11_town 3 RX11 := B
  have hx := B.1
  have hb := B.2.1
  have hl : lv_has ls 3 [(0, .ref v0), (1, .int v1)] := hl
  unfold f_X11_town at hf
  obtain ⟨_, hf⟩ := if_some hf
  obtain ⟨_, hf⟩ := gd3_some hf
  refine lv_iload_n hx hb dX11_town_0 rfl (lv_at hl 1 rfl) ?_
  refine lv_if_lt (tgt := 12) hx hb dX11_town_1 (by decide) (fun c1 => ?_) (fun c1 => ?_)
  · have hf := (if_pos c1).symm.trans hf
    exact w_X11_town_12 G B hr hlk  z h _ _ _ hw hM (lv_sub hl [] rfl) hf
  · have hf := (if_neg c1).symm.trans hf
    refine lv_iload_n hx hb dX11_town_4 rfl (lv_at hl 1 rfl) ?_
    refine lv_aload_n hx hb dX11_town_5 rfl (lv_at hl 0 rfl) ?_
    obtain ⟨x2, e, hf⟩ := ob hf
    refine q_getI e B hw fd_11_1.1 fd_11_1.2.1 fd_11_1.2.2.1 fd_11_1.2.2.2.1 fd_11_1.2.2.2.2 rfl tw_2_103 dX11_town_6 ?_
    refine lv_icmp_le (tgt := 17) hx hb dX11_town_9 (by decide) (fun c3 => ?_) (fun c3 => ?_)
    · have hf := (if_pos c3).symm.trans hf
      refine lv_aload_n hx hb dX11_town_17 rfl (lv_at hl 0 rfl) ?_
      refine lv_iconst (v := 0) hx hb dX11_town_18 (by decide) ?_
      obtain ⟨h4, e, hf⟩ := ob hf
      refine q_putI e B hw fd_11_1.1 fd_11_1.2.1 fd_11_1.2.2.1 fd_11_1.2.2.2.1 fd_11_1.2.2.2.2 rfl rfl (tyX11_ok 1 (by decide)) tyX11 tyX11_ok nmX11 tw_2_103 dX11_town_19 (fun H locs hw => ?_)
      refine lv_aload_n hx hb dX11_town_22 rfl (lv_at hl 0 rfl) ?_
      obtain ⟨a5, e, hf⟩ := ob hf
      refine q_getR e B hw fd_11_2.1 fd_11_2.2.1 fd_11_2.2.2.1 fd_11_2.2.2.2.1 fd_11_2.2.2.2.2 rfl tw_2_104 dX11_town_23 ?_
      refine lv_aload_n hx hb dX11_town_26 rfl (lv_at hl 0 rfl) ?_
      obtain ⟨a6, e, hf⟩ := ob hf
      refine q_getR e B hw fd_11_0.1 fd_11_0.2.1 fd_11_0.2.2.1 fd_11_0.2.2.2.1 fd_11_0.2.2.2.2 rfl tw_2_102 dX11_town_27 ?_
      refine lv_iload_n hx hb dX11_town_30 rfl (lv_at hl 1 rfl) ?_
      obtain ⟨⟨o7, h8, z9⟩, e, hf⟩ := ob hf
      obtain ⟨hg, hf⟩ := gd3_some hf
      refine q_callVNA (As := [.ref a6, .int v1]) (rest := []) (st1 := [va_rf o7]) (c_X6_read G e) (mo_X6_read e) hg B hw hM (k_X6_read e) (by decide) (ci := 6) rfl rfl my_X6_read mv_X6_read tw_2_167 ⟨Nat.le_of_ble_eq_true rfl, Nat.le_of_ble_eq_true rfl⟩ rfl hl.1 rfl rfl (Nat.le_of_ble_eq_true rfl) dX11_town_31 (fun H locs hw hM => ?_)
      rcases o7 with _ | a10
      · refine lv_astore_nN (lv' := [(2, .null), (0, .ref v0), (1, .int v1)]) hx hb dX11_town_34 rfl hl (by decide) rfl (fun ls hl => ?_)
        refine lv_aload_nN hx hb dX11_town_35 rfl (lv_at hl 0 rfl) ?_
        refine lv_ifnonnullN hx hb dX11_town_36 ?_
        refine lv_bipush (v := 30) hx hb dX11_town_39 (by decide) ?_
        refine lv_aload_n hx hb dX11_town_41 rfl (lv_at hl 1 rfl) ?_
        obtain ⟨a11, e, hf⟩ := ob hf
        refine q_getR e B hw fd_11_2.1 fd_11_2.2.1 fd_11_2.2.2.1 fd_11_2.2.2.2.1 fd_11_2.2.2.2.2 rfl tw_2_104 dX11_town_42 ?_
        obtain ⟨x12, e, hf⟩ := ob hf
        refine q_getIN e B hw fd_6_0.1 fd_6_0.2.1 fd_6_0.2.2.1 fd_6_0.2.2.2.1 fd_6_0.2.2.2.2 rfl tw_1_104 dX11_town_45 ?_
        refine lv_iadd hx hb dX11_town_48 ?_
        obtain ⟨x13, e, hf⟩ := ob hf
        refine q_callS (As := [.int (30 + x12)]) (rest := []) (st1 := [.int x13]) (c_X11_refused G e) B hw hM.hz hM.hc0 my_X11_refused mv_X11_refused tw_2_155 ⟨Nat.le_of_ble_eq_true rfl, Nat.le_of_ble_eq_true rfl⟩ hM.hcs rfl hl.1 rfl rfl (Nat.le_of_ble_eq_true rfl) dX11_town_49 (fun H locs hw => ?_)
        obtain ⟨rfl, rfl, rfl⟩ := so3 hf
        exact q_iret B hw hM.hz hM.hc0 hr hlk dX11_town_52
      · refine lv_astore_n (lv' := [(2, .ref a10), (0, .ref v0), (1, .int v1)]) hx hb dX11_town_34 rfl hl (by decide) rfl (fun ls hl => ?_)
        refine lv_aload_n hx hb dX11_town_35 rfl (lv_at hl 0 rfl) ?_
        refine lv_ifnonnull (tgt := 53) hx hb dX11_town_36 (by decide) ?_
        refine lv_aload_n hx hb dX11_town_53 rfl (lv_at hl 1 rfl) ?_
        refine lv_aload_n hx hb dX11_town_54 rfl (lv_at hl 0 rfl) ?_
        obtain ⟨h14, e, hf⟩ := ob hf
        refine q_putR e B hw fd_11_3.1 fd_11_3.2.1 fd_11_3.2.2.1 fd_11_3.2.2.2.1 fd_11_3.2.2.2.2 rfl rfl (tyX11_ok 3 (by decide)) (Or.inl ⟨_, rfl⟩) tyX11 tyX11_ok nmX11 tw_2_105 dX11_town_55 (fun H locs hw => ?_)
        refine lv_aload_n hx hb dX11_town_58 rfl (lv_at hl 1 rfl) ?_
        obtain ⟨a15, e, hf⟩ := ob hf
        refine q_getR e B hw fd_11_4.1 fd_11_4.2.1 fd_11_4.2.2.1 fd_11_4.2.2.2.1 fd_11_4.2.2.2.2 rfl tw_2_106 dX11_town_59 ?_
        refine lv_aload_n hx hb dX11_town_62 rfl (lv_at hl 0 rfl) ?_
        obtain ⟨h16, e, hf⟩ := ob hf
        refine q_callVN (As := [.ref a10]) (rest := []) (st1 := []) (c_X5_settle G e) B hw hM.hz hM.hc0 (k_X5_settle e) (by decide) (ci := 5) rfl rfl my_X5_settle mv_X5_settle tw_3_183 ⟨Nat.le_of_ble_eq_true rfl, Nat.le_of_ble_eq_true rfl⟩ hM.hcs rfl hl.1 rfl rfl (Nat.le_of_ble_eq_true rfl) dX11_town_63 (fun H locs hw => ?_)
        refine lv_aload_n hx hb dX11_town_66 rfl (lv_at hl 1 rfl) ?_
        obtain ⟨a17, e, hf⟩ := ob hf
        refine q_getR e B hw fd_11_6.1 fd_11_6.2.1 fd_11_6.2.2.1 fd_11_6.2.2.2.1 fd_11_6.2.2.2.2 rfl tw_2_108 dX11_town_67 ?_
        obtain ⟨h18, e, hf⟩ := ob hf
        refine q_callVN (As := []) (rest := []) (st1 := []) (c_X4_forget G e) B hw hM.hz hM.hc0 (k_X4_forget e) (by decide) (ci := 4) rfl rfl my_X4_forget mv_X4_forget tw_3_202 ⟨Nat.le_of_ble_eq_true rfl, Nat.le_of_ble_eq_true rfl⟩ hM.hcs rfl hl.1 rfl rfl (Nat.le_of_ble_eq_true rfl) dX11_town_70 (fun H locs hw => ?_)
        refine lv_aload_n hx hb dX11_town_73 rfl (lv_at hl 0 rfl) ?_
        obtain ⟨x19, e, hf⟩ := ob hf
        refine q_getIN e B hw fd_8_5.1 fd_8_5.2.1 fd_8_5.2.2.1 fd_8_5.2.2.2.1 fd_8_5.2.2.2.2 rfl tw_1_70 dX11_town_74 ?_
        obtain ⟨rfl, rfl, rfl⟩ := so3 hf
        exact q_iret B hw hM.hz hM.hc0 hr hlk dX11_town_77
    · have hf := (if_neg c3).symm.trans hf
      exact w_X11_town_12 G B hr hlk  z h _ _ _ hw hM (lv_sub hl [] rfl) hf
