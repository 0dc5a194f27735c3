/-! SecondLife.<init>()V -/
def f_X11_init_212 (n : Nat)  : Nat → Sh → Hp → Nat → Int32 → Option (Hp × Sh)
  | 0, _, _, _, _ => none
  | i + 1, z, h, v0, v1 =>
    (gR z h 11 v0 9).bind fun a1 =>
    (aL z a1).bind fun x2 =>
    if x2 ≤ v1 then
      some (h, z)
    else
      (gR z h 11 v0 9).bind fun a4 =>
      (nwO z h 9).bind fun (a5, h6, z7) =>
      gd2 z7 <|
      (f_X9_init z7 h6 a5).bind fun (h8, z9) =>
      gd2 z9 <|
      (stR z9 h8 20 9 a4 v1 a5).bind fun h10 =>
      (some (v1 + 1)).bind fun x11 =>
      (f_X11_init_212 n i) z9 h10 v0 x11
def f_X11_init_182 (n : Nat)  : Nat → Sh → Hp → Nat → Int32 → Option (Hp × Sh)
  | 0, _, _, _, _ => none
  | i + 1, z, h, v0, v1 =>
    (gR z h 11 v0 8).bind fun a1 =>
    (aL z a1).bind fun x2 =>
    if x2 ≤ v1 then
      f_X11_init_212 n n z h v0 0
    else
      (gR z h 11 v0 8).bind fun a4 =>
      (nwO z h 5).bind fun (a5, h6, z7) =>
      gd2 z7 <|
      (f_X5_init z7 h6 a5).bind fun (h8, z9) =>
      gd2 z9 <|
      (stR z9 h8 18 5 a4 v1 a5).bind fun h10 =>
      (some (v1 + 1)).bind fun x11 =>
      (f_X11_init_182 n i) z9 h10 v0 x11
def f_X11_init (n : Nat) (z : Sh) (h : Hp) (v0 : Nat) : Option (Hp × Sh) :=
  if z.K v0 = 11 then
    gd2 z <|
    (nwA z h 13 900).bind fun (a1, h2, z3) =>
    gd2 z3 <|
    (pR z3 h2 11 v0 0 (some a1)).bind fun h4 =>
    (pI z3 h4 11 v0 1 0).bind fun h5 =>
    (nwO z3 h5 6).bind fun (a6, h7, z8) =>
    gd2 z8 <|
    (f_X6_init z8 h7 a6).bind fun (h9, z10) =>
    gd2 z10 <|
    (pR z10 h9 11 v0 2 (some a6)).bind fun h11 =>
    (nwO z10 h11 8).bind fun (a12, h13, z14) =>
    gd2 z14 <|
    (f_X8_init z14 h13 a12).bind fun (h15, z16) =>
    gd2 z16 <|
    (pR z16 h15 11 v0 3 (some a12)).bind fun h17 =>
    (nwO z16 h17 5).bind fun (a18, h19, z20) =>
    gd2 z20 <|
    (f_X5_init z20 h19 a18).bind fun (h21, z22) =>
    gd2 z22 <|
    (pR z22 h21 11 v0 4 (some a18)).bind fun h23 =>
    (nwO z22 h23 5).bind fun (a24, h25, z26) =>
    gd2 z26 <|
    (f_X5_init z26 h25 a24).bind fun (h27, z28) =>
    gd2 z28 <|
    (pR z28 h27 11 v0 5 (some a24)).bind fun h29 =>
    (nwO z28 h29 4).bind fun (a30, h31, z32) =>
    gd2 z32 <|
    (f_X4_init n z32 h31 a30).bind fun (h33, z34) =>
    gd2 z34 <|
    (pR z34 h33 11 v0 6 (some a30)).bind fun h35 =>
    (nwA z34 h35 19 2).bind fun (a36, h37, z38) =>
    gd2 z38 <|
    (pR z38 h37 11 v0 7 (some a36)).bind fun h39 =>
    (nwA z38 h39 18 2).bind fun (a40, h41, z42) =>
    gd2 z42 <|
    (pR z42 h41 11 v0 8 (some a40)).bind fun h43 =>
    (nwA z42 h43 20 4).bind fun (a44, h45, z46) =>
    gd2 z46 <|
    (pR z46 h45 11 v0 9 (some a44)).bind fun h47 =>
    (nwO z46 h47 7).bind fun (a48, h49, z50) =>
    gd2 z50 <|
    (f_X7_init z50 h49 a48).bind fun (h51, z52) =>
    gd2 z52 <|
    (pR z52 h51 11 v0 10 (some a48)).bind fun h53 =>
    (nwO z52 h53 2).bind fun (a54, h55, z56) =>
    gd2 z56 <|
    (gR z56 h55 11 v0 10).bind fun a57 =>
    (f_X2_init z56 h55 a54 a57).bind fun (h58, z59) =>
    gd2 z59 <|
    (pR z59 h58 11 v0 11 (some a54)).bind fun h60 =>
    (nwO z59 h60 10).bind fun (a61, h62, z63) =>
    gd2 z63 <|
    (gR z63 h62 11 v0 10).bind fun a64 =>
    (f_X10_init z63 h62 a61 a64).bind fun (h65, z66) =>
    gd2 z66 <|
    (pR z66 h65 11 v0 12 (some a61)).bind fun h67 =>
    (nwO z66 h67 1).bind fun (a68, h69, z70) =>
    gd2 z70 <|
    (gR z70 h69 11 v0 12).bind fun a71 =>
    (f_X1_init z70 h69 a68 a71).bind fun (h72, z73) =>
    gd2 z73 <|
    (pR z73 h72 11 v0 13 (some a68)).bind fun h74 =>
    (nwO z73 h74 0).bind fun (a75, h76, z77) =>
    gd2 z77 <|
    (gR z77 h76 11 v0 12).bind fun a78 =>
    (gR z77 h76 11 v0 13).bind fun a79 =>
    (f_X0_init z77 h76 a75 a78 a79).bind fun (h80, z81) =>
    gd2 z81 <|
    (pR z81 h80 11 v0 14 (some a75)).bind fun h82 =>
    (nwA z81 h82 14 19).bind fun (a83, h84, z85) =>
    gd2 z85 <|
    (pR z85 h84 11 v0 15 (some a83)).bind fun h86 =>
    f_X11_init_182 n n z85 h86 v0 0
  else none
theorem k_X11_init {n : Nat} {z : Sh} {h : Hp} {v0 : Nat} {w : Hp × Sh} (hf : f_X11_init n z h v0 = some w) : z.K v0 = 11 := by
  unfold f_X11_init at hf
  exact (if_some hf).1
theorem mo_X11_init {n : Nat} {z : Sh} {h : Hp} {v0 : Nat} {h' : Hp} {zE : Sh} (hf : f_X11_init n z h v0 = some (h', zE)) : z.sz ≤ zE.sz ∧ z.sl ≤ zE.sl := by
  unfold f_X11_init at hf
  exact (gd2_some (if_some hf).2).1
set_option maxHeartbeats 4000000 in
theorem w_X11_init_212 {p : Program} {l : Launch} {e : Env} {s : State} {m : MethodId} {args : Array Value} {below : List Frame} {meth : Method} {c : Code} {s0 : State} {E : Ev} {z0 : Sh} {n : Nat} {h' : Hp} {zE : Sh} (G : Gl s0 E) (B : Bd p s0 s E m c cX11_init 2 RX11) (hin : meth.name = "<init>") (hr : meth.sig.returnType = none) (hlk : meth.locks = false) : ∀ (i : Nat), ∀ (z : Sh) (h : Hp) (v0 : Nat) (v1 : Int32) (H : Heap) (locs : List Loc) (ls : Array Slot), Pw s0 s E z h H locs → Mo s0 s z0 z zE → lv_has ls 2 [(0, .ref v0), (1, .int v1)] → f_X11_init_212 n i z h v0 v1 = some (h', zE) → W p l e (rmA 3 67 z0 zE) s m args below meth c H locs (z.sz - z0.sz) (z.sl - z0.sl) (Zt below s0 E zE h' (none) args s (zE.sz - z0.sz) (zE.sl - z0.sl)) (F0 m 212 ls []) := by
  have hx := B.1
  have hb := B.2.1
  intro i
  induction i with
  | zero =>
    intro z h v0 v1 H locs ls hw hM hl hf
    have hf := (f_X11_init_212.eq_1 ..).symm.trans hf
    cases hf
  | succ i ih =>
    intro z h v0 v1 H locs ls hw hM hl hf
    have hf := (f_X11_init_212.eq_2 ..).symm.trans hf
    refine lv_iload_n hx hb dX11_init_212 rfl (lv_at hl 1 rfl) ?_
    refine lv_aload_n hx hb dX11_init_213 rfl (lv_at hl 0 rfl) ?_
    obtain ⟨a1, e, hf⟩ := ob hf
    refine q_getR e B hw fd_11_9.1 fd_11_9.2.1 fd_11_9.2.2.1 fd_11_9.2.2.2.1 fd_11_9.2.2.2.2 rfl tw_2_111 dX11_init_214 ?_
    obtain ⟨x2, e, hf⟩ := ob hf
    refine q_len e B hw dX11_init_217 ?_
    refine lv_icmp_ge (tgt := 240) hx hb dX11_init_218 (by decide) (fun c3 => ?_) (fun c3 => ?_)
    · have hf := (if_pos c3).symm.trans hf
      obtain ⟨rfl, rfl⟩ := so2 hf
      exact q_vret B hw hM.hz hM.hc0 hr hlk dX11_init_240
    · have hf := (if_neg c3).symm.trans hf
      refine lv_aload_n hx hb dX11_init_221 rfl (lv_at hl 0 rfl) ?_
      obtain ⟨a4, e, hf⟩ := ob hf
      refine q_getR e B hw fd_11_9.1 fd_11_9.2.1 fd_11_9.2.2.1 fd_11_9.2.2.2.1 fd_11_9.2.2.2.2 rfl tw_2_111 dX11_init_222 ?_
      refine lv_iload_n hx hb dX11_init_225 rfl (lv_at hl 1 rfl) ?_
      obtain ⟨⟨a5, h6, z7⟩, e, hf⟩ := ob hf
      obtain ⟨hg, hf⟩ := gd2_some hf
      refine q_newO e hg B hw hM (by decide) (ci := 9) rfl rfl tyX9 tyX9_ok dfX9 tw_1_184 tw_2_80 tw_1_13 dX11_init_226 (fun H locs hw hM => ?_)
      refine lv_dup hx hb dX11_init_229 rfl ?_
      obtain ⟨⟨h8, z9⟩, e, hf⟩ := ob hf
      obtain ⟨hg, hf⟩ := gd2_some hf
      refine q_callINA (As := []) (rest := [.ref a5, .int v1, .ref a4]) (c_X9_init G e) (mo_X9_init e) hg B hw hM rfl my_X9_init mv_X9_init tw_2_81 ⟨Nat.le_of_ble_eq_true rfl, Nat.le_of_ble_eq_true rfl⟩ rfl hl.1 rfl (Nat.le_of_ble_eq_true rfl) dX11_init_230 (fun H locs hw hM => ?_)
      obtain ⟨h10, e, hf⟩ := ob hf
      refine q_stR (t0 := 7) e B hw (by decide) (by decide) (by decide) rfl rfl dX11_init_233 (fun H locs hw => ?_)
      obtain ⟨x11, e, hf⟩ := ob hf
      refine lv_iinc (v := x11) (lv' := [(1, .int x11), (0, .ref v0)]) hx hb dX11_init_234 hl (k := 1) rfl (Option.some.inj e) (by decide) rfl (fun ls hl => ?_)
      refine lv_goto (tgt := 212) hx hb dX11_init_237 (by decide) ?_
      exact ih z9 h10 v0 x11 _ _ _ hw hM (lv_sub hl [1, 0] rfl) hf
set_option maxHeartbeats 4000000 in
theorem w_X11_init_182 {p : Program} {l : Launch} {e : Env} {s : State} {m : MethodId} {args : Array Value} {below : List Frame} {meth : Method} {c : Code} {s0 : State} {E : Ev} {z0 : Sh} {n : Nat} {h' : Hp} {zE : Sh} (G : Gl s0 E) (B : Bd p s0 s E m c cX11_init 2 RX11) (hin : meth.name = "<init>") (hr : meth.sig.returnType = none) (hlk : meth.locks = false) : ∀ (i : Nat), ∀ (z : Sh) (h : Hp) (v0 : Nat) (v1 : Int32) (H : Heap) (locs : List Loc) (ls : Array Slot), Pw s0 s E z h H locs → Mo s0 s z0 z zE → lv_has ls 2 [(0, .ref v0), (1, .int v1)] → f_X11_init_182 n i z h v0 v1 = some (h', zE) → W p l e (rmA 3 67 z0 zE) s m args below meth c H locs (z.sz - z0.sz) (z.sl - z0.sl) (Zt below s0 E zE h' (none) args s (zE.sz - z0.sz) (zE.sl - z0.sl)) (F0 m 182 ls []) := by
  have hx := B.1
  have hb := B.2.1
  intro i
  induction i with
  | zero =>
    intro z h v0 v1 H locs ls hw hM hl hf
    have hf := (f_X11_init_182.eq_1 ..).symm.trans hf
    cases hf
  | succ i ih =>
    intro z h v0 v1 H locs ls hw hM hl hf
    have hf := (f_X11_init_182.eq_2 ..).symm.trans hf
    refine lv_iload_n hx hb dX11_init_182 rfl (lv_at hl 1 rfl) ?_
    refine lv_aload_n hx hb dX11_init_183 rfl (lv_at hl 0 rfl) ?_
    obtain ⟨a1, e, hf⟩ := ob hf
    refine q_getR e B hw fd_11_8.1 fd_11_8.2.1 fd_11_8.2.2.1 fd_11_8.2.2.2.1 fd_11_8.2.2.2.2 rfl tw_2_110 dX11_init_184 ?_
    obtain ⟨x2, e, hf⟩ := ob hf
    refine q_len e B hw dX11_init_187 ?_
    refine lv_icmp_ge (tgt := 210) hx hb dX11_init_188 (by decide) (fun c3 => ?_) (fun c3 => ?_)
    · have hf := (if_pos c3).symm.trans hf
      refine lv_iconst (v := 0) hx hb dX11_init_210 (by decide) ?_
      refine lv_istore_n (lv' := [(1, .int 0), (0, .ref v0)]) hx hb dX11_init_211 rfl hl (by decide) rfl (fun ls hl => ?_)
      exact w_X11_init_212 G B hin hr hlk  n z h v0 0 _ _ _ hw hM (lv_sub hl [1, 0] rfl) hf
    · have hf := (if_neg c3).symm.trans hf
      refine lv_aload_n hx hb dX11_init_191 rfl (lv_at hl 0 rfl) ?_
      obtain ⟨a4, e, hf⟩ := ob hf
      refine q_getR e B hw fd_11_8.1 fd_11_8.2.1 fd_11_8.2.2.1 fd_11_8.2.2.2.1 fd_11_8.2.2.2.2 rfl tw_2_110 dX11_init_192 ?_
      refine lv_iload_n hx hb dX11_init_195 rfl (lv_at hl 1 rfl) ?_
      obtain ⟨⟨a5, h6, z7⟩, e, hf⟩ := ob hf
      obtain ⟨hg, hf⟩ := gd2_some hf
      refine q_newO e hg B hw hM (by decide) (ci := 5) rfl rfl tyX5 tyX5_ok dfX5 tw_1_144 tw_1_145 tw_1_4 dX11_init_196 (fun H locs hw hM => ?_)
      refine lv_dup hx hb dX11_init_199 rfl ?_
      obtain ⟨⟨h8, z9⟩, e, hf⟩ := ob hf
      obtain ⟨hg, hf⟩ := gd2_some hf
      refine q_callINA (As := []) (rest := [.ref a5, .int v1, .ref a4]) (c_X5_init G e) (mo_X5_init e) hg B hw hM rfl my_X5_init mv_X5_init tw_1_146 ⟨Nat.le_of_ble_eq_true rfl, Nat.le_of_ble_eq_true rfl⟩ rfl hl.1 rfl (Nat.le_of_ble_eq_true rfl) dX11_init_200 (fun H locs hw hM => ?_)
      obtain ⟨h10, e, hf⟩ := ob hf
      refine q_stR (t0 := 5) e B hw (by decide) (by decide) (by decide) rfl rfl dX11_init_203 (fun H locs hw => ?_)
      obtain ⟨x11, e, hf⟩ := ob hf
      refine lv_iinc (v := x11) (lv' := [(1, .int x11), (0, .ref v0)]) hx hb dX11_init_204 hl (k := 1) rfl (Option.some.inj e) (by decide) rfl (fun ls hl => ?_)
      refine lv_goto (tgt := 182) hx hb dX11_init_207 (by decide) ?_
      exact ih z9 h10 v0 x11 _ _ _ hw hM (lv_sub hl [1, 0] rfl) hf
set_option maxHeartbeats 4000000 in
theorem c_X11_init {l : Launch} {s0 : State} {E : Ev} (G : Gl s0 E) {n : Nat} {z : Sh} {h : Hp} {v0 : Nat} {h' : Hp} {zE : Sh} (hf : f_X11_init n z h v0 = some (h', zE)) : Ca l s0 E yX11_init cX11_init 2 none 3 67 [.ref v0] z zE h h' (none) := by
  refine Ca.of G (by decide +kernel) (Nat.le_of_ble_eq_true rfl) (mo_X11_init hf) ?_
  intro p e s m below meth c ls B hw hM hr hlk hnm0 hl
  have B : Bd p s0 s E m c cX11_init 2 RX11 := B
  have hx := B.1
  have hb := B.2.1
  have hl : lv_has ls 2 [(0, .ref v0)] := hl
  have hin : meth.name = "<init>" := hnm0
  unfold f_X11_init at hf
  obtain ⟨_, hf⟩ := if_some hf
  obtain ⟨_, hf⟩ := gd2_some hf
  refine lv_aload_n hx hb dX11_init_0 rfl (lv_at hl 0 rfl) ?_
  refine q_obj B hl.1 tw_1_28 tw_1_29 tw_1_30 (Nat.le_of_ble_eq_true rfl) (Nat.le_of_ble_eq_true rfl) dX11_init_1 ?_
  refine lv_aload_n hx hb dX11_init_4 rfl (lv_at hl 0 rfl) ?_
  refine lv_sipush (v := 900) hx hb dX11_init_5 (by decide) ?_
  obtain ⟨⟨a1, h2, z3⟩, e, hf⟩ := ob hf
  obtain ⟨hg, hf⟩ := gd2_some hf
  refine q_newA (atype := .byte) (ty := .byte) (t0 := 0) e hg B hw hM (by decide) rfl rfl rfl (cfn_13 E _ _) arn_13 tw_1_101 dX11_init_8 (fun H locs hw hM => ?_)
  obtain ⟨h4, e, hf⟩ := ob hf
  refine q_putRF e B hw hin fd_11_0.1 fd_11_0.2.1 fd_11_0.2.2.1 fd_11_0.2.2.2.1 fd_11_0.2.2.2.2 rfl rfl rfl (tyX11_ok 0 (by decide)) (Or.inr ⟨_, rfl⟩) tyX11 tyX11_ok nmX11 tw_2_102 dX11_init_10 (fun H locs hw => ?_)
  refine lv_aload_n hx hb dX11_init_13 rfl (lv_at hl 0 rfl) ?_
  refine lv_iconst (v := 0) hx hb dX11_init_14 (by decide) ?_
  obtain ⟨h5, e, hf⟩ := ob hf
  refine q_putI e B hw fd_11_1.1 fd_11_1.2.1 fd_11_1.2.2.1 fd_11_1.2.2.2.1 fd_11_1.2.2.2.2 rfl rfl (tyX11_ok 1 (by decide)) tyX11 tyX11_ok nmX11 tw_2_103 dX11_init_15 (fun H locs hw => ?_)
  refine lv_aload_n hx hb dX11_init_18 rfl (lv_at hl 0 rfl) ?_
  obtain ⟨⟨a6, h7, z8⟩, e, hf⟩ := ob hf
  obtain ⟨hg, hf⟩ := gd2_some hf
  refine q_newO e hg B hw hM (by decide) (ci := 6) rfl rfl tyX6 tyX6_ok dfX6 tw_1_31 tw_1_32 tw_1_2 dX11_init_19 (fun H locs hw hM => ?_)
  refine lv_dup hx hb dX11_init_22 rfl ?_
  obtain ⟨⟨h9, z10⟩, e, hf⟩ := ob hf
  obtain ⟨hg, hf⟩ := gd2_some hf
  refine q_callINA (As := []) (rest := [.ref a6, .ref v0]) (c_X6_init G e) (mo_X6_init e) hg B hw hM rfl my_X6_init mv_X6_init tw_1_33 ⟨Nat.le_of_ble_eq_true rfl, Nat.le_of_ble_eq_true rfl⟩ rfl hl.1 rfl (Nat.le_of_ble_eq_true rfl) dX11_init_23 (fun H locs hw hM => ?_)
  obtain ⟨h11, e, hf⟩ := ob hf
  refine q_putRF e B hw hin fd_11_2.1 fd_11_2.2.1 fd_11_2.2.2.1 fd_11_2.2.2.2.1 fd_11_2.2.2.2.2 rfl rfl rfl (tyX11_ok 2 (by decide)) (Or.inl ⟨_, rfl⟩) tyX11 tyX11_ok nmX11 tw_2_104 dX11_init_26 (fun H locs hw => ?_)
  refine lv_aload_n hx hb dX11_init_29 rfl (lv_at hl 0 rfl) ?_
  obtain ⟨⟨a12, h13, z14⟩, e, hf⟩ := ob hf
  obtain ⟨hg, hf⟩ := gd2_some hf
  refine q_newO e hg B hw hM (by decide) (ci := 8) rfl rfl tyX8 tyX8_ok dfX8 tw_1_142 tw_1_38 tw_1_3 dX11_init_30 (fun H locs hw hM => ?_)
  refine lv_dup hx hb dX11_init_33 rfl ?_
  obtain ⟨⟨h15, z16⟩, e, hf⟩ := ob hf
  obtain ⟨hg, hf⟩ := gd2_some hf
  refine q_callINA (As := []) (rest := [.ref a12, .ref v0]) (c_X8_init G e) (mo_X8_init e) hg B hw hM rfl my_X8_init mv_X8_init tw_1_143 ⟨Nat.le_of_ble_eq_true rfl, Nat.le_of_ble_eq_true rfl⟩ rfl hl.1 rfl (Nat.le_of_ble_eq_true rfl) dX11_init_34 (fun H locs hw hM => ?_)
  obtain ⟨h17, e, hf⟩ := ob hf
  refine q_putR e B hw fd_11_3.1 fd_11_3.2.1 fd_11_3.2.2.1 fd_11_3.2.2.2.1 fd_11_3.2.2.2.2 rfl rfl (tyX11_ok 3 (by decide)) (Or.inl ⟨_, rfl⟩) tyX11 tyX11_ok nmX11 tw_2_105 dX11_init_37 (fun H locs hw => ?_)
  refine lv_aload_n hx hb dX11_init_40 rfl (lv_at hl 0 rfl) ?_
  obtain ⟨⟨a18, h19, z20⟩, e, hf⟩ := ob hf
  obtain ⟨hg, hf⟩ := gd2_some hf
  refine q_newO e hg B hw hM (by decide) (ci := 5) rfl rfl tyX5 tyX5_ok dfX5 tw_1_144 tw_1_145 tw_1_4 dX11_init_41 (fun H locs hw hM => ?_)
  refine lv_dup hx hb dX11_init_44 rfl ?_
  obtain ⟨⟨h21, z22⟩, e, hf⟩ := ob hf
  obtain ⟨hg, hf⟩ := gd2_some hf
  refine q_callINA (As := []) (rest := [.ref a18, .ref v0]) (c_X5_init G e) (mo_X5_init e) hg B hw hM rfl my_X5_init mv_X5_init tw_1_146 ⟨Nat.le_of_ble_eq_true rfl, Nat.le_of_ble_eq_true rfl⟩ rfl hl.1 rfl (Nat.le_of_ble_eq_true rfl) dX11_init_45 (fun H locs hw hM => ?_)
  obtain ⟨h23, e, hf⟩ := ob hf
  refine q_putRF e B hw hin fd_11_4.1 fd_11_4.2.1 fd_11_4.2.2.1 fd_11_4.2.2.2.1 fd_11_4.2.2.2.2 rfl rfl rfl (tyX11_ok 4 (by decide)) (Or.inl ⟨_, rfl⟩) tyX11 tyX11_ok nmX11 tw_2_106 dX11_init_48 (fun H locs hw => ?_)
  refine lv_aload_n hx hb dX11_init_51 rfl (lv_at hl 0 rfl) ?_
  obtain ⟨⟨a24, h25, z26⟩, e, hf⟩ := ob hf
  obtain ⟨hg, hf⟩ := gd2_some hf
  refine q_newO e hg B hw hM (by decide) (ci := 5) rfl rfl tyX5 tyX5_ok dfX5 tw_1_144 tw_1_145 tw_1_4 dX11_init_52 (fun H locs hw hM => ?_)
  refine lv_dup hx hb dX11_init_55 rfl ?_
  obtain ⟨⟨h27, z28⟩, e, hf⟩ := ob hf
  obtain ⟨hg, hf⟩ := gd2_some hf
  refine q_callINA (As := []) (rest := [.ref a24, .ref v0]) (c_X5_init G e) (mo_X5_init e) hg B hw hM rfl my_X5_init mv_X5_init tw_1_146 ⟨Nat.le_of_ble_eq_true rfl, Nat.le_of_ble_eq_true rfl⟩ rfl hl.1 rfl (Nat.le_of_ble_eq_true rfl) dX11_init_56 (fun H locs hw hM => ?_)
  obtain ⟨h29, e, hf⟩ := ob hf
  refine q_putRF e B hw hin fd_11_5.1 fd_11_5.2.1 fd_11_5.2.2.1 fd_11_5.2.2.2.1 fd_11_5.2.2.2.2 rfl rfl rfl (tyX11_ok 5 (by decide)) (Or.inl ⟨_, rfl⟩) tyX11 tyX11_ok nmX11 tw_2_107 dX11_init_59 (fun H locs hw => ?_)
  refine lv_aload_n hx hb dX11_init_62 rfl (lv_at hl 0 rfl) ?_
  obtain ⟨⟨a30, h31, z32⟩, e, hf⟩ := ob hf
  obtain ⟨hg, hf⟩ := gd2_some hf
  refine q_newO e hg B hw hM (by decide) (ci := 4) rfl rfl tyX4 tyX4_ok dfX4 tw_1_163 tw_1_164 tw_1_5 dX11_init_63 (fun H locs hw hM => ?_)
  refine lv_dup hx hb dX11_init_66 rfl ?_
  obtain ⟨⟨h33, z34⟩, e, hf⟩ := ob hf
  obtain ⟨hg, hf⟩ := gd2_some hf
  refine q_callINA (As := []) (rest := [.ref a30, .ref v0]) (c_X4_init G e) (mo_X4_init e) hg B hw hM rfl my_X4_init mv_X4_init tw_1_165 ⟨Nat.le_of_ble_eq_true rfl, Nat.le_of_ble_eq_true rfl⟩ rfl hl.1 rfl (Nat.le_of_ble_eq_true rfl) dX11_init_67 (fun H locs hw hM => ?_)
  obtain ⟨h35, e, hf⟩ := ob hf
  refine q_putRF e B hw hin fd_11_6.1 fd_11_6.2.1 fd_11_6.2.2.1 fd_11_6.2.2.2.1 fd_11_6.2.2.2.2 rfl rfl rfl (tyX11_ok 6 (by decide)) (Or.inl ⟨_, rfl⟩) tyX11 tyX11_ok nmX11 tw_2_108 dX11_init_70 (fun H locs hw => ?_)
  refine lv_aload_n hx hb dX11_init_73 rfl (lv_at hl 0 rfl) ?_
  refine lv_iconst (v := 2) hx hb dX11_init_74 (by decide) ?_
  obtain ⟨⟨a36, h37, z38⟩, e, hf⟩ := ob hf
  obtain ⟨hg, hf⟩ := gd2_some hf
  refine q_newQ (t0 := 6) e hg B hw hM (by decide) (by decide) rfl rfl tw_1_142 (va_AO.moved B.2.2.2.2.1.alike (va_AO.of (G.2.1.choose_spec _ tw_1_183))) dX11_init_75 (fun H locs hw hM => ?_)
  obtain ⟨h39, e, hf⟩ := ob hf
  refine q_putRF e B hw hin fd_11_7.1 fd_11_7.2.1 fd_11_7.2.2.1 fd_11_7.2.2.2.1 fd_11_7.2.2.2.2 rfl rfl rfl (tyX11_ok 7 (by decide)) (Or.inr ⟨_, rfl⟩) tyX11 tyX11_ok nmX11 tw_2_109 dX11_init_78 (fun H locs hw => ?_)
  refine lv_aload_n hx hb dX11_init_81 rfl (lv_at hl 0 rfl) ?_
  refine lv_iconst (v := 2) hx hb dX11_init_82 (by decide) ?_
  obtain ⟨⟨a40, h41, z42⟩, e, hf⟩ := ob hf
  obtain ⟨hg, hf⟩ := gd2_some hf
  refine q_newQ (t0 := 5) e hg B hw hM (by decide) (by decide) rfl rfl tw_1_144 (va_AO.moved B.2.2.2.2.1.alike (va_AO.of (G.2.1.choose_spec _ tw_1_170))) dX11_init_83 (fun H locs hw hM => ?_)
  obtain ⟨h43, e, hf⟩ := ob hf
  refine q_putRF e B hw hin fd_11_8.1 fd_11_8.2.1 fd_11_8.2.2.1 fd_11_8.2.2.2.1 fd_11_8.2.2.2.2 rfl rfl rfl (tyX11_ok 8 (by decide)) (Or.inr ⟨_, rfl⟩) tyX11 tyX11_ok nmX11 tw_2_110 dX11_init_86 (fun H locs hw => ?_)
  refine lv_aload_n hx hb dX11_init_89 rfl (lv_at hl 0 rfl) ?_
  refine lv_iconst (v := 4) hx hb dX11_init_90 (by decide) ?_
  obtain ⟨⟨a44, h45, z46⟩, e, hf⟩ := ob hf
  obtain ⟨hg, hf⟩ := gd2_some hf
  refine q_newQ (t0 := 7) e hg B hw hM (by decide) (by decide) rfl rfl tw_1_184 (va_AO.moved B.2.2.2.2.1.alike (va_AO.of (G.2.1.choose_spec _ tw_1_185))) dX11_init_91 (fun H locs hw hM => ?_)
  obtain ⟨h47, e, hf⟩ := ob hf
  refine q_putRF e B hw hin fd_11_9.1 fd_11_9.2.1 fd_11_9.2.2.1 fd_11_9.2.2.2.1 fd_11_9.2.2.2.2 rfl rfl rfl (tyX11_ok 9 (by decide)) (Or.inr ⟨_, rfl⟩) tyX11 tyX11_ok nmX11 tw_2_111 dX11_init_94 (fun H locs hw => ?_)
  refine lv_aload_n hx hb dX11_init_97 rfl (lv_at hl 0 rfl) ?_
  obtain ⟨⟨a48, h49, z50⟩, e, hf⟩ := ob hf
  obtain ⟨hg, hf⟩ := gd2_some hf
  refine q_newO e hg B hw hM (by decide) (ci := 7) rfl rfl tyX7 tyX7_ok dfX7 tw_1_186 tw_1_187 tw_1_6 dX11_init_98 (fun H locs hw hM => ?_)
  refine lv_dup hx hb dX11_init_101 rfl ?_
  obtain ⟨⟨h51, z52⟩, e, hf⟩ := ob hf
  obtain ⟨hg, hf⟩ := gd2_some hf
  refine q_callINA (As := []) (rest := [.ref a48, .ref v0]) (c_X7_init G e) (mo_X7_init e) hg B hw hM rfl my_X7_init mv_X7_init tw_1_188 ⟨Nat.le_of_ble_eq_true rfl, Nat.le_of_ble_eq_true rfl⟩ rfl hl.1 rfl (Nat.le_of_ble_eq_true rfl) dX11_init_102 (fun H locs hw hM => ?_)
  obtain ⟨h53, e, hf⟩ := ob hf
  refine q_putRF e B hw hin fd_11_10.1 fd_11_10.2.1 fd_11_10.2.2.1 fd_11_10.2.2.2.1 fd_11_10.2.2.2.2 rfl rfl rfl (tyX11_ok 10 (by decide)) (Or.inl ⟨_, rfl⟩) tyX11 tyX11_ok nmX11 tw_2_112 dX11_init_105 (fun H locs hw => ?_)
  refine lv_aload_n hx hb dX11_init_108 rfl (lv_at hl 0 rfl) ?_
  obtain ⟨⟨a54, h55, z56⟩, e, hf⟩ := ob hf
  obtain ⟨hg, hf⟩ := gd2_some hf
  refine q_newO e hg B hw hM (by decide) (ci := 2) rfl rfl tyX2 tyX2_ok dfX2 tw_1_200 tw_1_201 tw_1_7 dX11_init_109 (fun H locs hw hM => ?_)
  refine lv_dup hx hb dX11_init_112 rfl ?_
  refine lv_aload_n hx hb dX11_init_113 rfl (lv_at hl 0 rfl) ?_
  obtain ⟨a57, e, hf⟩ := ob hf
  refine q_getR e B hw fd_11_10.1 fd_11_10.2.1 fd_11_10.2.2.1 fd_11_10.2.2.2.1 fd_11_10.2.2.2.2 rfl tw_2_112 dX11_init_114 ?_
  obtain ⟨⟨h58, z59⟩, e, hf⟩ := ob hf
  obtain ⟨hg, hf⟩ := gd2_some hf
  refine q_callINA (As := [.ref a57]) (rest := [.ref a54, .ref v0]) (c_X2_init G e) (mo_X2_init e) hg B hw hM rfl my_X2_init mv_X2_init tw_1_202 ⟨Nat.le_of_ble_eq_true rfl, Nat.le_of_ble_eq_true rfl⟩ rfl hl.1 rfl (Nat.le_of_ble_eq_true rfl) dX11_init_117 (fun H locs hw hM => ?_)
  obtain ⟨h60, e, hf⟩ := ob hf
  refine q_putRF e B hw hin fd_11_11.1 fd_11_11.2.1 fd_11_11.2.2.1 fd_11_11.2.2.2.1 fd_11_11.2.2.2.2 rfl rfl rfl (tyX11_ok 11 (by decide)) (Or.inl ⟨_, rfl⟩) tyX11 tyX11_ok nmX11 tw_2_113 dX11_init_120 (fun H locs hw => ?_)
  refine lv_aload_n hx hb dX11_init_123 rfl (lv_at hl 0 rfl) ?_
  obtain ⟨⟨a61, h62, z63⟩, e, hf⟩ := ob hf
  obtain ⟨hg, hf⟩ := gd2_some hf
  refine q_newO e hg B hw hM (by decide) (ci := 10) rfl rfl tyX10 tyX10_ok dfX10 tw_1_217 tw_1_218 tw_1_8 dX11_init_124 (fun H locs hw hM => ?_)
  refine lv_dup hx hb dX11_init_127 rfl ?_
  refine lv_aload_n hx hb dX11_init_128 rfl (lv_at hl 0 rfl) ?_
  obtain ⟨a64, e, hf⟩ := ob hf
  refine q_getR e B hw fd_11_10.1 fd_11_10.2.1 fd_11_10.2.2.1 fd_11_10.2.2.2.1 fd_11_10.2.2.2.2 rfl tw_2_112 dX11_init_129 ?_
  obtain ⟨⟨h65, z66⟩, e, hf⟩ := ob hf
  obtain ⟨hg, hf⟩ := gd2_some hf
  refine q_callINA (As := [.ref a64]) (rest := [.ref a61, .ref v0]) (c_X10_init G e) (mo_X10_init e) hg B hw hM rfl my_X10_init mv_X10_init tw_1_219 ⟨Nat.le_of_ble_eq_true rfl, Nat.le_of_ble_eq_true rfl⟩ rfl hl.1 rfl (Nat.le_of_ble_eq_true rfl) dX11_init_132 (fun H locs hw hM => ?_)
  obtain ⟨h67, e, hf⟩ := ob hf
  refine q_putRF e B hw hin fd_11_12.1 fd_11_12.2.1 fd_11_12.2.2.1 fd_11_12.2.2.2.1 fd_11_12.2.2.2.2 rfl rfl rfl (tyX11_ok 12 (by decide)) (Or.inl ⟨_, rfl⟩) tyX11 tyX11_ok nmX11 tw_2_114 dX11_init_135 (fun H locs hw => ?_)
  refine lv_aload_n hx hb dX11_init_138 rfl (lv_at hl 0 rfl) ?_
  obtain ⟨⟨a68, h69, z70⟩, e, hf⟩ := ob hf
  obtain ⟨hg, hf⟩ := gd2_some hf
  refine q_newO e hg B hw hM (by decide) (ci := 1) rfl rfl tyX1 tyX1_ok dfX1 tw_2_23 tw_2_24 tw_1_9 dX11_init_139 (fun H locs hw hM => ?_)
  refine lv_dup hx hb dX11_init_142 rfl ?_
  refine lv_aload_n hx hb dX11_init_143 rfl (lv_at hl 0 rfl) ?_
  obtain ⟨a71, e, hf⟩ := ob hf
  refine q_getR e B hw fd_11_12.1 fd_11_12.2.1 fd_11_12.2.2.1 fd_11_12.2.2.2.1 fd_11_12.2.2.2.2 rfl tw_2_114 dX11_init_144 ?_
  obtain ⟨⟨h72, z73⟩, e, hf⟩ := ob hf
  obtain ⟨hg, hf⟩ := gd2_some hf
  refine q_callINA (As := [.ref a71]) (rest := [.ref a68, .ref v0]) (c_X1_init G e) (mo_X1_init e) hg B hw hM rfl my_X1_init mv_X1_init tw_2_25 ⟨Nat.le_of_ble_eq_true rfl, Nat.le_of_ble_eq_true rfl⟩ rfl hl.1 rfl (Nat.le_of_ble_eq_true rfl) dX11_init_147 (fun H locs hw hM => ?_)
  obtain ⟨h74, e, hf⟩ := ob hf
  refine q_putRF e B hw hin fd_11_13.1 fd_11_13.2.1 fd_11_13.2.2.1 fd_11_13.2.2.2.1 fd_11_13.2.2.2.2 rfl rfl rfl (tyX11_ok 13 (by decide)) (Or.inl ⟨_, rfl⟩) tyX11 tyX11_ok nmX11 tw_2_115 dX11_init_150 (fun H locs hw => ?_)
  refine lv_aload_n hx hb dX11_init_153 rfl (lv_at hl 0 rfl) ?_
  obtain ⟨⟨a75, h76, z77⟩, e, hf⟩ := ob hf
  obtain ⟨hg, hf⟩ := gd2_some hf
  refine q_newO e hg B hw hM (by decide) (ci := 0) rfl rfl tyX0 tyX0_ok dfX0 tw_2_56 tw_2_57 tw_1_12 dX11_init_154 (fun H locs hw hM => ?_)
  refine lv_dup hx hb dX11_init_157 rfl ?_
  refine lv_aload_n hx hb dX11_init_158 rfl (lv_at hl 0 rfl) ?_
  obtain ⟨a78, e, hf⟩ := ob hf
  refine q_getR e B hw fd_11_12.1 fd_11_12.2.1 fd_11_12.2.2.1 fd_11_12.2.2.2.1 fd_11_12.2.2.2.2 rfl tw_2_114 dX11_init_159 ?_
  refine lv_aload_n hx hb dX11_init_162 rfl (lv_at hl 0 rfl) ?_
  obtain ⟨a79, e, hf⟩ := ob hf
  refine q_getR e B hw fd_11_13.1 fd_11_13.2.1 fd_11_13.2.2.1 fd_11_13.2.2.2.1 fd_11_13.2.2.2.2 rfl tw_2_115 dX11_init_163 ?_
  obtain ⟨⟨h80, z81⟩, e, hf⟩ := ob hf
  obtain ⟨hg, hf⟩ := gd2_some hf
  refine q_callINA (As := [.ref a78, .ref a79]) (rest := [.ref a75, .ref v0]) (c_X0_init G e) (mo_X0_init e) hg B hw hM rfl my_X0_init mv_X0_init tw_2_58 ⟨Nat.le_of_ble_eq_true rfl, Nat.le_of_ble_eq_true rfl⟩ rfl hl.1 rfl (Nat.le_of_ble_eq_true rfl) dX11_init_166 (fun H locs hw hM => ?_)
  obtain ⟨h82, e, hf⟩ := ob hf
  refine q_putRF e B hw hin fd_11_14.1 fd_11_14.2.1 fd_11_14.2.2.1 fd_11_14.2.2.2.1 fd_11_14.2.2.2.2 rfl rfl rfl (tyX11_ok 14 (by decide)) (Or.inl ⟨_, rfl⟩) tyX11 tyX11_ok nmX11 tw_2_116 dX11_init_169 (fun H locs hw => ?_)
  refine lv_aload_n hx hb dX11_init_172 rfl (lv_at hl 0 rfl) ?_
  refine lv_bipush (v := 19) hx hb dX11_init_173 (by decide) ?_
  obtain ⟨⟨a83, h84, z85⟩, e, hf⟩ := ob hf
  obtain ⟨hg, hf⟩ := gd2_some hf
  refine q_newA (atype := .int) (ty := .int) (t0 := 1) e hg B hw hM (by decide) rfl rfl rfl (cfn_14 E _ _) arn_14 tw_1_102 dX11_init_175 (fun H locs hw hM => ?_)
  obtain ⟨h86, e, hf⟩ := ob hf
  refine q_putRF e B hw hin fd_11_15.1 fd_11_15.2.1 fd_11_15.2.2.1 fd_11_15.2.2.2.1 fd_11_15.2.2.2.2 rfl rfl rfl (tyX11_ok 15 (by decide)) (Or.inr ⟨_, rfl⟩) tyX11 tyX11_ok nmX11 tw_2_117 dX11_init_177 (fun H locs hw => ?_)
  refine lv_iconst (v := 0) hx hb dX11_init_180 (by decide) ?_
  refine lv_istore_n (lv' := [(1, .int 0), (0, .ref v0)]) hx hb dX11_init_181 rfl hl (by decide) rfl (fun ls hl => ?_)
  exact w_X11_init_182 G B hin hr hlk  n z85 h86 v0 0 _ _ _ hw hM (lv_sub hl [1, 0] rfl) hf
/-! SecondLife.worth(II)I -/
def f_X11_worth_23 (n : Nat) (z : Sh) (h : Hp) : Option (Int32 × Hp) :=
  (f_X11_refused z h 2).bind fun x1 =>
  some (x1, h)
def f_X11_worth (n : Nat) (z : Sh) (h : Hp) (v0 : Nat) (v1 : Int32) (v2 : Int32) : Option (Int32 × Hp) :=
  if z.K v0 = 11 then
    (gR z h 11 v0 4).bind fun a1 =>
    (f_X5_has z h a1 v1).bind fun x2 =>
    if x2 = 0 then
      f_X11_worth_23 n z h
    else
      (gR z h 11 v0 3).bind fun a4 =>
      (f_X8_hasTrade z h a4 (Int32.toInt64 v2)).bind fun x5 =>
      if x5 = 0 then
        f_X11_worth_23 n z h
      else
        (gR z h 11 v0 4).bind fun a7 =>
        (f_X5_part z h a7 v1 0).bind fun x8 =>
        (gR z h 11 v0 3).bind fun a9 =>
        (gI z h 8 a9 0).bind fun x10 =>
        if x8 < x10 then
          (gR z h 11 v0 10).bind fun a12 =>
          (gR z h 11 v0 4).bind fun a13 =>
          (f_X7_about z h a12 a13 v1).bind fun h14 =>
          (gR z h14 11 v0 10).bind fun a15 =>
          (gR z h14 11 v0 3).bind fun a16 =>
          (f_X7_worthOf n z h14 a15 a16 v2).bind fun (x17, h18) =>
          some (x17, h18)
        else
          (f_X11_refused z h 5).bind fun x19 =>
          some (x19, h)
  else none
theorem k_X11_worth {n : Nat} {z : Sh} {h : Hp} {v0 : Nat} {v1 : Int32} {v2 : Int32} {w : Int32 × Hp} (hf : f_X11_worth n z h v0 v1 v2 = some w) : z.K v0 = 11 := by
  unfold f_X11_worth at hf
  exact (if_some hf).1
set_option maxHeartbeats 4000000 in
theorem w_X11_worth_23 {p : Program} {l : Launch} {e : Env} {s : State} {m : MethodId} {args : Array Value} {below : List Frame} {meth : Method} {c : Code} {s0 : State} {E : Ev} {z : Sh} {n : Nat} {r : Int32} {h' : Hp} (G : Gl s0 E) (B : Bd p s0 s E m c cX11_worth 3 RX11) (hz : s0.heap.size ≤ z.sz) (hc0 : s.heap.size + 0 = z.sz) (hr : meth.sig.returnType = (some .int)) (hlk : meth.locks = false) : ∀ (h : Hp) (H : Heap) (locs : List Loc) (ls : Array Slot), Pw s0 s E z h H locs → lv_has ls 3 [] → f_X11_worth_23 n z h = some (r, h') → W p l e (rmO 3 70) s m args below meth c H locs 0 0 (Zt below s0 E z h' (some (.int r)) args s 0 0) (F0 m 23 ls []) := by
  have hx := B.1
  have hb := B.2.1
  intro h H locs ls hw hl hf
  unfold f_X11_worth_23 at hf
  refine lv_iconst (v := 2) hx hb dX11_worth_23 (by decide) ?_
  obtain ⟨x1, e, hf⟩ := ob hf
  refine q_callS (As := [.int 2]) (rest := []) (st1 := [.int x1]) (c_X11_refused G e) B hw hz hc0 my_X11_refused mv_X11_refused tw_2_155 ⟨Nat.le_of_ble_eq_true rfl, Nat.le_of_ble_eq_true rfl⟩ ⟨Nat.zero_le _, Nat.zero_le _⟩ rfl hl.1 rfl rfl (Nat.le_of_ble_eq_true rfl) dX11_worth_24 (fun H locs hw => ?_)
  obtain ⟨rfl, rfl⟩ := so2 hf
  exact q_iret B hw hz hc0 hr hlk dX11_worth_27
set_option maxHeartbeats 4000000 in
theorem c_X11_worth {l : Launch} {s0 : State} {E : Ev} (G : Gl s0 E) {n : Nat} {z : Sh} {h : Hp} {v0 : Nat} {v1 : Int32} {v2 : Int32} {r : Int32} {h' : Hp} (hf : f_X11_worth n z h v0 v1 v2 = some (r, h')) : Ct l s0 E yX11_worth cX11_worth 3 (some .int) 3 70 [.ref v0, .int v1, .int v2] z h h' (some (.int r)) := by
  refine Ct.of G (by decide) (Nat.le_of_ble_eq_true rfl) ?_
  intro p e s m below meth c ls B hw hz hc0 hr hlk hl
  have B : Bd p s0 s E m c cX11_worth 3 RX11 := B
  have hx := B.1
  have hb := B.2.1
  have hl : lv_has ls 3 [(0, .ref v0), (1, .int v1), (2, .int v2)] := hl
  unfold f_X11_worth at hf
  obtain ⟨_, hf⟩ := if_some hf
  refine lv_aload_n hx hb dX11_worth_0 rfl (lv_at hl 0 rfl) ?_
  obtain ⟨a1, e, hf⟩ := ob hf
  refine q_getR e B hw fd_11_4.1 fd_11_4.2.1 fd_11_4.2.2.1 fd_11_4.2.2.2.1 fd_11_4.2.2.2.2 rfl tw_2_106 dX11_worth_1 ?_
  refine lv_iload_n hx hb dX11_worth_4 rfl (lv_at hl 1 rfl) ?_
  obtain ⟨x2, e, hf⟩ := ob hf
  refine q_callVN (As := [.int v1]) (rest := []) (st1 := [.int x2]) (c_X5_has G e) B hw hz hc0 (k_X5_has e) (by decide) (ci := 5) rfl rfl my_X5_has mv_X5_has tw_3_210 ⟨Nat.le_of_ble_eq_true rfl, Nat.le_of_ble_eq_true rfl⟩ ⟨Nat.zero_le _, Nat.zero_le _⟩ rfl hl.1 rfl rfl (Nat.le_of_ble_eq_true rfl) dX11_worth_5 (fun H locs hw => ?_)
  refine lv_if_eq (tgt := 23) hx hb dX11_worth_8 (by decide) (fun c3 => ?_) (fun c3 => ?_)
  · have hf := (if_pos c3).symm.trans hf
    exact w_X11_worth_23 G B hz hc0 hr hlk  h _ _ _ hw (lv_sub hl [] rfl) hf
  · have hf := (if_neg c3).symm.trans hf
    refine lv_aload_n hx hb dX11_worth_11 rfl (lv_at hl 0 rfl) ?_
    obtain ⟨a4, e, hf⟩ := ob hf
    refine q_getR e B hw fd_11_3.1 fd_11_3.2.1 fd_11_3.2.2.1 fd_11_3.2.2.2.1 fd_11_3.2.2.2.2 rfl tw_2_105 dX11_worth_12 ?_
    refine lv_iload_n hx hb dX11_worth_15 rfl (lv_at hl 2 rfl) ?_
    refine lv_i2l (v := (Int32.toInt64 v2)) hx hb dX11_worth_16 rfl ?_
    obtain ⟨x5, e, hf⟩ := ob hf
    refine q_callVN (As := [.long (Int32.toInt64 v2)]) (rest := []) (st1 := [.int x5]) (c_X8_hasTrade G e) B hw hz hc0 (k_X8_hasTrade e) (by decide) (ci := 8) rfl rfl my_X8_hasTrade mv_X8_hasTrade tw_3_222 ⟨Nat.le_of_ble_eq_true rfl, Nat.le_of_ble_eq_true rfl⟩ ⟨Nat.zero_le _, Nat.zero_le _⟩ rfl hl.1 rfl rfl (Nat.le_of_ble_eq_true rfl) dX11_worth_17 (fun H locs hw => ?_)
    refine lv_if_ne (tgt := 28) hx hb dX11_worth_20 (by decide) (fun c6 => ?_) (fun c6 => ?_)
    · have hf := (if_neg c6).symm.trans hf
      refine lv_aload_n hx hb dX11_worth_28 rfl (lv_at hl 0 rfl) ?_
      obtain ⟨a7, e, hf⟩ := ob hf
      refine q_getR e B hw fd_11_4.1 fd_11_4.2.1 fd_11_4.2.2.1 fd_11_4.2.2.2.1 fd_11_4.2.2.2.2 rfl tw_2_106 dX11_worth_29 ?_
      refine lv_iload_n hx hb dX11_worth_32 rfl (lv_at hl 1 rfl) ?_
      refine lv_iconst (v := 0) hx hb dX11_worth_33 (by decide) ?_
      obtain ⟨x8, e, hf⟩ := ob hf
      refine q_callVN (As := [.int v1, .int 0]) (rest := []) (st1 := [.int x8]) (c_X5_part G e) B hw hz hc0 (k_X5_part e) (by decide) (ci := 5) rfl rfl my_X5_part mv_X5_part tw_3_214 ⟨Nat.le_of_ble_eq_true rfl, Nat.le_of_ble_eq_true rfl⟩ ⟨Nat.zero_le _, Nat.zero_le _⟩ rfl hl.1 rfl rfl (Nat.le_of_ble_eq_true rfl) dX11_worth_34 (fun H locs hw => ?_)
      refine lv_aload_n hx hb dX11_worth_37 rfl (lv_at hl 0 rfl) ?_
      obtain ⟨a9, e, hf⟩ := ob hf
      refine q_getR e B hw fd_11_3.1 fd_11_3.2.1 fd_11_3.2.2.1 fd_11_3.2.2.2.1 fd_11_3.2.2.2.2 rfl tw_2_105 dX11_worth_38 ?_
      obtain ⟨x10, e, hf⟩ := ob hf
      refine q_getIN e B hw fd_8_0.1 fd_8_0.2.1 fd_8_0.2.2.1 fd_8_0.2.2.2.1 fd_8_0.2.2.2.2 rfl tw_1_52 dX11_worth_41 ?_
      refine lv_icmp_lt (tgt := 52) hx hb dX11_worth_44 (by decide) (fun c11 => ?_) (fun c11 => ?_)
      · have hf := (if_pos c11).symm.trans hf
        refine lv_aload_n hx hb dX11_worth_52 rfl (lv_at hl 0 rfl) ?_
        obtain ⟨a12, e, hf⟩ := ob hf
        refine q_getR e B hw fd_11_10.1 fd_11_10.2.1 fd_11_10.2.2.1 fd_11_10.2.2.2.1 fd_11_10.2.2.2.2 rfl tw_2_112 dX11_worth_53 ?_
        refine lv_aload_n hx hb dX11_worth_56 rfl (lv_at hl 0 rfl) ?_
        obtain ⟨a13, e, hf⟩ := ob hf
        refine q_getR e B hw fd_11_4.1 fd_11_4.2.1 fd_11_4.2.2.1 fd_11_4.2.2.2.1 fd_11_4.2.2.2.2 rfl tw_2_106 dX11_worth_57 ?_
        refine lv_iload_n hx hb dX11_worth_60 rfl (lv_at hl 1 rfl) ?_
        obtain ⟨h14, e, hf⟩ := ob hf
        refine q_callVN (As := [.ref a13, .int v1]) (rest := []) (st1 := []) (c_X7_about G e) B hw hz hc0 (k_X7_about e) (by decide) (ci := 7) rfl rfl my_X7_about mv_X7_about tw_3_226 ⟨Nat.le_of_ble_eq_true rfl, Nat.le_of_ble_eq_true rfl⟩ ⟨Nat.zero_le _, Nat.zero_le _⟩ rfl hl.1 rfl rfl (Nat.le_of_ble_eq_true rfl) dX11_worth_61 (fun H locs hw => ?_)
        refine lv_aload_n hx hb dX11_worth_64 rfl (lv_at hl 0 rfl) ?_
        obtain ⟨a15, e, hf⟩ := ob hf
        refine q_getR e B hw fd_11_10.1 fd_11_10.2.1 fd_11_10.2.2.1 fd_11_10.2.2.2.1 fd_11_10.2.2.2.2 rfl tw_2_112 dX11_worth_65 ?_
        refine lv_aload_n hx hb dX11_worth_68 rfl (lv_at hl 0 rfl) ?_
        obtain ⟨a16, e, hf⟩ := ob hf
        refine q_getR e B hw fd_11_3.1 fd_11_3.2.1 fd_11_3.2.2.1 fd_11_3.2.2.2.1 fd_11_3.2.2.2.2 rfl tw_2_105 dX11_worth_69 ?_
        refine lv_iload_n hx hb dX11_worth_72 rfl (lv_at hl 2 rfl) ?_
        obtain ⟨⟨x17, h18⟩, e, hf⟩ := ob hf
        refine q_callVN (As := [.ref a16, .int v2]) (rest := []) (st1 := [.int x17]) (c_X7_worthOf G e) B hw hz hc0 (k_X7_worthOf e) (by decide) (ci := 7) rfl rfl my_X7_worthOf mv_X7_worthOf tw_3_231 ⟨Nat.le_of_ble_eq_true rfl, Nat.le_of_ble_eq_true rfl⟩ ⟨Nat.zero_le _, Nat.zero_le _⟩ rfl hl.1 rfl rfl (Nat.le_of_ble_eq_true rfl) dX11_worth_73 (fun H locs hw => ?_)
        obtain ⟨rfl, rfl⟩ := so2 hf
        exact q_iret B hw hz hc0 hr hlk dX11_worth_76
      · have hf := (if_neg c11).symm.trans hf
        refine lv_iconst (v := 5) hx hb dX11_worth_47 (by decide) ?_
        obtain ⟨x19, e, hf⟩ := ob hf
        refine q_callS (As := [.int 5]) (rest := []) (st1 := [.int x19]) (c_X11_refused G e) B hw hz hc0 my_X11_refused mv_X11_refused tw_2_155 ⟨Nat.le_of_ble_eq_true rfl, Nat.le_of_ble_eq_true rfl⟩ ⟨Nat.zero_le _, Nat.zero_le _⟩ rfl hl.1 rfl rfl (Nat.le_of_ble_eq_true rfl) dX11_worth_48 (fun H locs hw => ?_)
        obtain ⟨rfl, rfl⟩ := so2 hf
        exact q_iret B hw hz hc0 hr hlk dX11_worth_51
    · have hf := (if_pos c6).symm.trans hf
      exact w_X11_worth_23 G B hz hc0 hr hlk  h _ _ _ hw (lv_sub hl [] rfl) hf
/-! SecondLife.grown(I)I -/
def f_X11_grown (n : Nat) (z : Sh) (h : Hp) (v0 : Nat) (v1 : Int32) : Option (Int32 × Hp) :=
  if z.K v0 = 11 then
    (gR z h 11 v0 4).bind fun a1 =>
    (f_X5_has z h a1 v1).bind fun x2 =>
    if x2 = 0 then
      (f_X11_refused z h 2).bind fun x15 =>
      some (x15, h)
    else
      (gR z h 11 v0 4).bind fun a4 =>
      (f_X5_part z h a4 v1 1).bind fun x5 =>
      if x5 = 1 then
        (gR z h 11 v0 10).bind fun a7 =>
        (gR z h 11 v0 4).bind fun a8 =>
        (f_X7_about z h a7 a8 v1).bind fun h9 =>
        (gR z h9 11 v0 10).bind fun a10 =>
        (gR z h9 11 v0 3).bind fun a11 =>
        (f_X7_grownOf n z h9 a10 a11).bind fun (x12, h13) =>
        some (x12, h13)
      else
        (f_X11_refused z h 5).bind fun x14 =>
        some (x14, h)
  else none
theorem k_X11_grown {n : Nat} {z : Sh} {h : Hp} {v0 : Nat} {v1 : Int32} {w : Int32 × Hp} (hf : f_X11_grown n z h v0 v1 = some w) : z.K v0 = 11 := by
  unfold f_X11_grown at hf
  exact (if_some hf).1
set_option maxHeartbeats 4000000 in
theorem c_X11_grown {l : Launch} {s0 : State} {E : Ev} (G : Gl s0 E) {n : Nat} {z : Sh} {h : Hp} {v0 : Nat} {v1 : Int32} {r : Int32} {h' : Hp} (hf : f_X11_grown n z h v0 v1 = some (r, h')) : Ct l s0 E yX11_grown cX11_grown 2 (some .int) 3 69 [.ref v0, .int v1] z h h' (some (.int r)) := by
  refine Ct.of G (by decide) (Nat.le_of_ble_eq_true rfl) ?_
  intro p e s m below meth c ls B hw hz hc0 hr hlk hl
  have B : Bd p s0 s E m c cX11_grown 2 RX11 := B
  have hx := B.1
  have hb := B.2.1
  have hl : lv_has ls 2 [(0, .ref v0), (1, .int v1)] := hl
  unfold f_X11_grown at hf
  obtain ⟨_, hf⟩ := if_some hf
  refine lv_aload_n hx hb dX11_grown_0 rfl (lv_at hl 0 rfl) ?_
  obtain ⟨a1, e, hf⟩ := ob hf
  refine q_getR e B hw fd_11_4.1 fd_11_4.2.1 fd_11_4.2.2.1 fd_11_4.2.2.2.1 fd_11_4.2.2.2.2 rfl tw_2_106 dX11_grown_1 ?_
  refine lv_iload_n hx hb dX11_grown_4 rfl (lv_at hl 1 rfl) ?_
  obtain ⟨x2, e, hf⟩ := ob hf
  refine q_callVN (As := [.int v1]) (rest := []) (st1 := [.int x2]) (c_X5_has G e) B hw hz hc0 (k_X5_has e) (by decide) (ci := 5) rfl rfl my_X5_has mv_X5_has tw_3_210 ⟨Nat.le_of_ble_eq_true rfl, Nat.le_of_ble_eq_true rfl⟩ ⟨Nat.zero_le _, Nat.zero_le _⟩ rfl hl.1 rfl rfl (Nat.le_of_ble_eq_true rfl) dX11_grown_5 (fun H locs hw => ?_)
  refine lv_if_ne (tgt := 16) hx hb dX11_grown_8 (by decide) (fun c3 => ?_) (fun c3 => ?_)
  · have hf := (if_neg c3).symm.trans hf
    refine lv_aload_n hx hb dX11_grown_16 rfl (lv_at hl 0 rfl) ?_
    obtain ⟨a4, e, hf⟩ := ob hf
    refine q_getR e B hw fd_11_4.1 fd_11_4.2.1 fd_11_4.2.2.1 fd_11_4.2.2.2.1 fd_11_4.2.2.2.2 rfl tw_2_106 dX11_grown_17 ?_
    refine lv_iload_n hx hb dX11_grown_20 rfl (lv_at hl 1 rfl) ?_
    refine lv_iconst (v := 1) hx hb dX11_grown_21 (by decide) ?_
    obtain ⟨x5, e, hf⟩ := ob hf
    refine q_callVN (As := [.int v1, .int 1]) (rest := []) (st1 := [.int x5]) (c_X5_part G e) B hw hz hc0 (k_X5_part e) (by decide) (ci := 5) rfl rfl my_X5_part mv_X5_part tw_3_214 ⟨Nat.le_of_ble_eq_true rfl, Nat.le_of_ble_eq_true rfl⟩ ⟨Nat.zero_le _, Nat.zero_le _⟩ rfl hl.1 rfl rfl (Nat.le_of_ble_eq_true rfl) dX11_grown_22 (fun H locs hw => ?_)
    refine lv_iconst (v := 1) hx hb dX11_grown_25 (by decide) ?_
    refine lv_icmp_eq (tgt := 34) hx hb dX11_grown_26 (by decide) (fun c6 => ?_) (fun c6 => ?_)
    · have hf := (if_pos c6).symm.trans hf
      refine lv_aload_n hx hb dX11_grown_34 rfl (lv_at hl 0 rfl) ?_
      obtain ⟨a7, e, hf⟩ := ob hf
      refine q_getR e B hw fd_11_10.1 fd_11_10.2.1 fd_11_10.2.2.1 fd_11_10.2.2.2.1 fd_11_10.2.2.2.2 rfl tw_2_112 dX11_grown_35 ?_
      refine lv_aload_n hx hb dX11_grown_38 rfl (lv_at hl 0 rfl) ?_
      obtain ⟨a8, e, hf⟩ := ob hf
      refine q_getR e B hw fd_11_4.1 fd_11_4.2.1 fd_11_4.2.2.1 fd_11_4.2.2.2.1 fd_11_4.2.2.2.2 rfl tw_2_106 dX11_grown_39 ?_
      refine lv_iload_n hx hb dX11_grown_42 rfl (lv_at hl 1 rfl) ?_
      obtain ⟨h9, e, hf⟩ := ob hf
      refine q_callVN (As := [.ref a8, .int v1]) (rest := []) (st1 := []) (c_X7_about G e) B hw hz hc0 (k_X7_about e) (by decide) (ci := 7) rfl rfl my_X7_about mv_X7_about tw_3_226 ⟨Nat.le_of_ble_eq_true rfl, Nat.le_of_ble_eq_true rfl⟩ ⟨Nat.zero_le _, Nat.zero_le _⟩ rfl hl.1 rfl rfl (Nat.le_of_ble_eq_true rfl) dX11_grown_43 (fun H locs hw => ?_)
      refine lv_aload_n hx hb dX11_grown_46 rfl (lv_at hl 0 rfl) ?_
      obtain ⟨a10, e, hf⟩ := ob hf
      refine q_getR e B hw fd_11_10.1 fd_11_10.2.1 fd_11_10.2.2.1 fd_11_10.2.2.2.1 fd_11_10.2.2.2.2 rfl tw_2_112 dX11_grown_47 ?_
      refine lv_aload_n hx hb dX11_grown_50 rfl (lv_at hl 0 rfl) ?_
      obtain ⟨a11, e, hf⟩ := ob hf
      refine q_getR e B hw fd_11_3.1 fd_11_3.2.1 fd_11_3.2.2.1 fd_11_3.2.2.2.1 fd_11_3.2.2.2.2 rfl tw_2_105 dX11_grown_51 ?_
      obtain ⟨⟨x12, h13⟩, e, hf⟩ := ob hf
      refine q_callVN (As := [.ref a11]) (rest := []) (st1 := [.int x12]) (c_X7_grownOf G e) B hw hz hc0 (k_X7_grownOf e) (by decide) (ci := 7) rfl rfl my_X7_grownOf mv_X7_grownOf tw_4_17 ⟨Nat.le_of_ble_eq_true rfl, Nat.le_of_ble_eq_true rfl⟩ ⟨Nat.zero_le _, Nat.zero_le _⟩ rfl hl.1 rfl rfl (Nat.le_of_ble_eq_true rfl) dX11_grown_54 (fun H locs hw => ?_)
      obtain ⟨rfl, rfl⟩ := so2 hf
      exact q_iret B hw hz hc0 hr hlk dX11_grown_57
    · have hf := (if_neg c6).symm.trans hf
      refine lv_iconst (v := 5) hx hb dX11_grown_29 (by decide) ?_
      obtain ⟨x14, e, hf⟩ := ob hf
      refine q_callS (As := [.int 5]) (rest := []) (st1 := [.int x14]) (c_X11_refused G e) B hw hz hc0 my_X11_refused mv_X11_refused tw_2_155 ⟨Nat.le_of_ble_eq_true rfl, Nat.le_of_ble_eq_true rfl⟩ ⟨Nat.zero_le _, Nat.zero_le _⟩ rfl hl.1 rfl rfl (Nat.le_of_ble_eq_true rfl) dX11_grown_30 (fun H locs hw => ?_)
      obtain ⟨rfl, rfl⟩ := so2 hf
      exact q_iret B hw hz hc0 hr hlk dX11_grown_33
  · have hf := (if_pos c3).symm.trans hf
    refine lv_iconst (v := 2) hx hb dX11_grown_11 (by decide) ?_
    obtain ⟨x15, e, hf⟩ := ob hf
    refine q_callS (As := [.int 2]) (rest := []) (st1 := [.int x15]) (c_X11_refused G e) B hw hz hc0 my_X11_refused mv_X11_refused tw_2_155 ⟨Nat.le_of_ble_eq_true rfl, Nat.le_of_ble_eq_true rfl⟩ ⟨Nat.zero_le _, Nat.zero_le _⟩ rfl hl.1 rfl rfl (Nat.le_of_ble_eq_true rfl) dX11_grown_12 (fun H locs hw => ?_)
    obtain ⟨rfl, rfl⟩ := so2 hf
    exact q_iret B hw hz hc0 hr hlk dX11_grown_15
/-! SecondLife.courses(I)J -/
def f_X11_courses (n : Nat) (z : Sh) (h : Hp) (v0 : Nat) (v1 : Int32) : Option (Int64 × Hp) :=
  if z.K v0 = 11 then
    (gR z h 11 v0 4).bind fun a1 =>
    (f_X5_has z h a1 v1).bind fun x2 =>
    if x2 = 0 then
      (f_X11_refused z h 2).bind fun x10 =>
      some ((Int32.toInt64 x10), h)
    else
      (gR z h 11 v0 12).bind fun a4 =>
      (gR z h 11 v0 3).bind fun a5 =>
      (gR z h 11 v0 4).bind fun a6 =>
      (f_X10_about n z h a4 a5 a6 v1).bind fun h7 =>
      (gR z h7 11 v0 13).bind fun a8 =>
      (f_X1_howMany n z h7 a8).bind fun x9 =>
      some (x9, h7)
  else none
theorem k_X11_courses {n : Nat} {z : Sh} {h : Hp} {v0 : Nat} {v1 : Int32} {w : Int64 × Hp} (hf : f_X11_courses n z h v0 v1 = some w) : z.K v0 = 11 := by
  unfold f_X11_courses at hf
  exact (if_some hf).1
set_option maxHeartbeats 4000000 in
theorem c_X11_courses {l : Launch} {s0 : State} {E : Ev} (G : Gl s0 E) {n : Nat} {z : Sh} {h : Hp} {v0 : Nat} {v1 : Int32} {r : Int64} {h' : Hp} (hf : f_X11_courses n z h v0 v1 = some (r, h')) : Ct l s0 E yX11_courses cX11_courses 2 (some .long) 4 95 [.ref v0, .int v1] z h h' (some (.long r)) := by
  refine Ct.of G (by decide) (Nat.le_of_ble_eq_true rfl) ?_
  intro p e s m below meth c ls B hw hz hc0 hr hlk hl
  have B : Bd p s0 s E m c cX11_courses 2 RX11 := B
  have hx := B.1
  have hb := B.2.1
  have hl : lv_has ls 2 [(0, .ref v0), (1, .int v1)] := hl
  unfold f_X11_courses at hf
  obtain ⟨_, hf⟩ := if_some hf
  refine lv_aload_n hx hb dX11_courses_0 rfl (lv_at hl 0 rfl) ?_
  obtain ⟨a1, e, hf⟩ := ob hf
  refine q_getR e B hw fd_11_4.1 fd_11_4.2.1 fd_11_4.2.2.1 fd_11_4.2.2.2.1 fd_11_4.2.2.2.2 rfl tw_2_106 dX11_courses_1 ?_
  refine lv_iload_n hx hb dX11_courses_4 rfl (lv_at hl 1 rfl) ?_
  obtain ⟨x2, e, hf⟩ := ob hf
  refine q_callVN (As := [.int v1]) (rest := []) (st1 := [.int x2]) (c_X5_has G e) B hw hz hc0 (k_X5_has e) (by decide) (ci := 5) rfl rfl my_X5_has mv_X5_has tw_3_210 ⟨Nat.le_of_ble_eq_true rfl, Nat.le_of_ble_eq_true rfl⟩ ⟨Nat.zero_le _, Nat.zero_le _⟩ rfl hl.1 rfl rfl (Nat.le_of_ble_eq_true rfl) dX11_courses_5 (fun H locs hw => ?_)
  refine lv_if_ne (tgt := 17) hx hb dX11_courses_8 (by decide) (fun c3 => ?_) (fun c3 => ?_)
  · have hf := (if_neg c3).symm.trans hf
    refine lv_aload_n hx hb dX11_courses_17 rfl (lv_at hl 0 rfl) ?_
    obtain ⟨a4, e, hf⟩ := ob hf
    refine q_getR e B hw fd_11_12.1 fd_11_12.2.1 fd_11_12.2.2.1 fd_11_12.2.2.2.1 fd_11_12.2.2.2.2 rfl tw_2_114 dX11_courses_18 ?_
    refine lv_aload_n hx hb dX11_courses_21 rfl (lv_at hl 0 rfl) ?_
    obtain ⟨a5, e, hf⟩ := ob hf
    refine q_getR e B hw fd_11_3.1 fd_11_3.2.1 fd_11_3.2.2.1 fd_11_3.2.2.2.1 fd_11_3.2.2.2.2 rfl tw_2_105 dX11_courses_22 ?_
    refine lv_aload_n hx hb dX11_courses_25 rfl (lv_at hl 0 rfl) ?_
    obtain ⟨a6, e, hf⟩ := ob hf
    refine q_getR e B hw fd_11_4.1 fd_11_4.2.1 fd_11_4.2.2.1 fd_11_4.2.2.2.1 fd_11_4.2.2.2.2 rfl tw_2_106 dX11_courses_26 ?_
    refine lv_iload_n hx hb dX11_courses_29 rfl (lv_at hl 1 rfl) ?_
    obtain ⟨h7, e, hf⟩ := ob hf
    refine q_callVN (As := [.ref a5, .ref a6, .int v1]) (rest := []) (st1 := []) (c_X10_about G e) B hw hz hc0 (k_X10_about e) (by decide) (ci := 10) rfl rfl my_X10_about mv_X10_about tw_4_153 ⟨Nat.le_of_ble_eq_true rfl, Nat.le_of_ble_eq_true rfl⟩ ⟨Nat.zero_le _, Nat.zero_le _⟩ rfl hl.1 rfl rfl (Nat.le_of_ble_eq_true rfl) dX11_courses_30 (fun H locs hw => ?_)
    refine lv_aload_n hx hb dX11_courses_33 rfl (lv_at hl 0 rfl) ?_
    obtain ⟨a8, e, hf⟩ := ob hf
    refine q_getR e B hw fd_11_13.1 fd_11_13.2.1 fd_11_13.2.2.1 fd_11_13.2.2.2.1 fd_11_13.2.2.2.2 rfl tw_2_115 dX11_courses_34 ?_
    obtain ⟨x9, e, hf⟩ := ob hf
    refine q_callVN (As := []) (rest := []) (st1 := [.long x9]) (c_X1_howMany G e) B hw hz hc0 (k_X1_howMany e) (by decide) (ci := 1) rfl rfl my_X1_howMany mv_X1_howMany tw_5_16 ⟨Nat.le_of_ble_eq_true rfl, Nat.le_of_ble_eq_true rfl⟩ ⟨Nat.zero_le _, Nat.zero_le _⟩ rfl hl.1 rfl rfl (Nat.le_of_ble_eq_true rfl) dX11_courses_37 (fun H locs hw => ?_)
    obtain ⟨rfl, rfl⟩ := so2 hf
    exact q_lret B hw hz hc0 hr hlk dX11_courses_40
  · have hf := (if_pos c3).symm.trans hf
    refine lv_iconst (v := 2) hx hb dX11_courses_11 (by decide) ?_
    obtain ⟨x10, e, hf⟩ := ob hf
    refine q_callS (As := [.int 2]) (rest := []) (st1 := [.int x10]) (c_X11_refused G e) B hw hz hc0 my_X11_refused mv_X11_refused tw_2_155 ⟨Nat.le_of_ble_eq_true rfl, Nat.le_of_ble_eq_true rfl⟩ ⟨Nat.zero_le _, Nat.zero_le _⟩ rfl hl.1 rfl rfl (Nat.le_of_ble_eq_true rfl) dX11_courses_12 (fun H locs hw => ?_)
    refine lv_i2l (v := (Int32.toInt64 x10)) hx hb dX11_courses_15 rfl ?_
    obtain ⟨rfl, rfl⟩ := so2 hf
    exact q_lret B hw hz hc0 hr hlk dX11_courses_16
