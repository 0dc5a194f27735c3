/-! SecondLifeModel.readFlag(I)Z -/
def f_X12_readFlag_56 (n : Nat) (z : Sh) (h : Hp) (v0 : Nat) : Option (Int32 × Hp) :=
  (gI z h 12 v0 11).bind fun x1 =>
  if x1 = 0 then
    some (1, h)
  else
    some (0, h)
def f_X12_readFlag (n : Nat) (z : Sh) (h : Hp) (v0 : Nat) (v1 : Int32) : Option (Int32 × Hp) :=
  if z.K v0 = 12 then
    (f_X12_eats n z h v0 4).bind fun (x1, h2) =>
    if x1 = 0 then
      (f_X12_eats n z h2 v0 5).bind fun (x4, h5) =>
      if x4 = 0 then
        some (0, h5)
      else
        (gR z h5 12 v0 4).bind fun a7 =>
        (f_X12_takes n z h5 v0 0 9).bind fun (x8, h9) =>
        (stI z h9 a7 (11 + v1) x8).bind fun h10 =>
        f_X12_readFlag_56 n z h10 v0
    else
      (gR z h2 12 v0 4).bind fun a11 =>
      (f_X12_takes n z h2 v0 0 9).bind fun (x12, h13) =>
      (stI z h13 a11 (54 + v1) x12).bind fun h14 =>
      f_X12_readFlag_56 n z h14 v0
  else none
theorem k_X12_readFlag {n : Nat} {z : Sh} {h : Hp} {v0 : Nat} {v1 : Int32} {w : Int32 × Hp} (hf : f_X12_readFlag n z h v0 v1 = some w) : z.K v0 = 12 := by
  unfold f_X12_readFlag at hf
  exact (if_some hf).1
set_option maxHeartbeats 4000000 in
theorem w_X12_readFlag_56 {p : Program} {l : Launch} {e : Env} {s : State} {m : MethodId} {args : Array Value} {below : List Frame} {meth : Method} {c : Code} {s0 : State} {E : Ev} {z : Sh} {n : Nat} {r : Int32} {h' : Hp} (G : Gl s0 E) (B : Bd p s0 s E m c cX12_readFlag 2 RX12) (hz : s0.heap.size ≤ z.sz) (hc0 : s.heap.size + 0 = z.sz) (hr : meth.sig.returnType = (some .boolean)) (hlk : meth.locks = false) : ∀ (h : Hp) (v0 : Nat) (H : Heap) (locs : List Loc) (ls : Array Slot), Pw s0 s E z h H locs → lv_has ls 2 [(0, .ref v0)] → f_X12_readFlag_56 n z h v0 = some (r, h') → W p l e (rmO 7 152) s m args below meth c H locs 0 0 (Zt below s0 E z h' (some (.int r)) args s 0 0) (F0 m 56 ls []) := by
  have hx := B.1
  have hb := B.2.1
  intro h v0 H locs ls hw hl hf
  unfold f_X12_readFlag_56 at hf
  refine lv_aload_n hx hb dX12_readFlag_56 rfl (lv_at hl 0 rfl) ?_
  obtain ⟨x1, e, hf⟩ := ob hf
  refine q_getI e B hw fd_12_11.1 fd_12_11.2.1 fd_12_11.2.2.1 fd_12_11.2.2.2.1 fd_12_11.2.2.2.2 rfl tw_6_54 dX12_readFlag_57 ?_
  refine lv_if_ne (tgt := 67) hx hb dX12_readFlag_60 (by decide) (fun c2 => ?_) (fun c2 => ?_)
  · have hf := (if_neg c2).symm.trans hf
    refine lv_iconst (v := 0) hx hb dX12_readFlag_67 (by decide) ?_
    obtain ⟨rfl, rfl⟩ := so2 hf
    exact q_zret (Or.inl rfl) B hw hz hc0 hr hlk dX12_readFlag_68
  · have hf := (if_pos c2).symm.trans hf
    refine lv_iconst (v := 1) hx hb dX12_readFlag_63 (by decide) ?_
    refine lv_goto (tgt := 68) hx hb dX12_readFlag_64 (by decide) ?_
    obtain ⟨rfl, rfl⟩ := so2 hf
    exact q_zret (Or.inr rfl) B hw hz hc0 hr hlk dX12_readFlag_68
set_option maxHeartbeats 4000000 in
theorem c_X12_readFlag {l : Launch} {s0 : State} {E : Ev} (G : Gl s0 E) {n : Nat} {z : Sh} {h : Hp} {v0 : Nat} {v1 : Int32} {r : Int32} {h' : Hp} (hf : f_X12_readFlag n z h v0 v1 = some (r, h')) : Ct l s0 E yX12_readFlag cX12_readFlag 2 (some .boolean) 7 152 [.ref v0, .int v1] z h h' (some (.int r)) := by
  refine Ct.of G (by decide) (Nat.le_of_ble_eq_true rfl) ?_
  intro p e s m below meth c ls B hw hz hc0 hr hlk hl
  have B : Bd p s0 s E m c cX12_readFlag 2 RX12 := B
  have hx := B.1
  have hb := B.2.1
  have hl : lv_has ls 2 [(0, .ref v0), (1, .int v1)] := hl
  unfold f_X12_readFlag at hf
  obtain ⟨_, hf⟩ := if_some hf
  refine lv_aload_n hx hb dX12_readFlag_0 rfl (lv_at hl 0 rfl) ?_
  refine lv_iconst (v := 4) hx hb dX12_readFlag_1 (by decide) ?_
  obtain ⟨⟨x1, h2⟩, e, hf⟩ := ob hf
  refine q_callV (As := [.int 4]) (rest := []) (st1 := [.int x1]) (c_X12_eats G e) B hw hz hc0 (k_X12_eats e) (by decide) (ci := 12) rfl rfl my_X12_eats mv_X12_eats tw_6_188 ⟨Nat.le_of_ble_eq_true rfl, Nat.le_of_ble_eq_true rfl⟩ ⟨Nat.zero_le _, Nat.zero_le _⟩ rfl hl.1 rfl rfl (Nat.le_of_ble_eq_true rfl) dX12_readFlag_2 (fun H locs hw => ?_)
  refine lv_if_eq (tgt := 27) hx hb dX12_readFlag_5 (by decide) (fun c3 => ?_) (fun c3 => ?_)
  · have hf := (if_pos c3).symm.trans hf
    refine lv_aload_n hx hb dX12_readFlag_27 rfl (lv_at hl 0 rfl) ?_
    refine lv_iconst (v := 5) hx hb dX12_readFlag_28 (by decide) ?_
    obtain ⟨⟨x4, h5⟩, e, hf⟩ := ob hf
    refine q_callV (As := [.int 5]) (rest := []) (st1 := [.int x4]) (c_X12_eats G e) B hw hz hc0 (k_X12_eats e) (by decide) (ci := 12) rfl rfl my_X12_eats mv_X12_eats tw_6_188 ⟨Nat.le_of_ble_eq_true rfl, Nat.le_of_ble_eq_true rfl⟩ ⟨Nat.zero_le _, Nat.zero_le _⟩ rfl hl.1 rfl rfl (Nat.le_of_ble_eq_true rfl) dX12_readFlag_29 (fun H locs hw => ?_)
    refine lv_if_eq (tgt := 54) hx hb dX12_readFlag_32 (by decide) (fun c6 => ?_) (fun c6 => ?_)
    · have hf := (if_pos c6).symm.trans hf
      refine lv_iconst (v := 0) hx hb dX12_readFlag_54 (by decide) ?_
      obtain ⟨rfl, rfl⟩ := so2 hf
      exact q_zret (Or.inl rfl) B hw hz hc0 hr hlk dX12_readFlag_55
    · have hf := (if_neg c6).symm.trans hf
      refine lv_aload_n hx hb dX12_readFlag_35 rfl (lv_at hl 0 rfl) ?_
      obtain ⟨a7, e, hf⟩ := ob hf
      refine q_getR e B hw fd_12_4.1 fd_12_4.2.1 fd_12_4.2.2.1 fd_12_4.2.2.2.1 fd_12_4.2.2.2.2 rfl tw_6_47 dX12_readFlag_36 ?_
      refine lv_bipush (v := 11) hx hb dX12_readFlag_39 (by decide) ?_
      refine lv_iload_n hx hb dX12_readFlag_41 rfl (lv_at hl 1 rfl) ?_
      refine lv_iadd hx hb dX12_readFlag_42 ?_
      refine lv_aload_n hx hb dX12_readFlag_43 rfl (lv_at hl 0 rfl) ?_
      refine lv_iconst (v := 0) hx hb dX12_readFlag_44 (by decide) ?_
      refine lv_bipush (v := 9) hx hb dX12_readFlag_45 (by decide) ?_
      obtain ⟨⟨x8, h9⟩, e, hf⟩ := ob hf
      refine q_callV (As := [.int 0, .int 9]) (rest := [.int (11 + v1), .ref a7]) (st1 := [.int x8, .int (11 + v1), .ref a7]) (c_X12_takes G e) B hw hz hc0 (k_X12_takes e) (by decide) (ci := 12) rfl rfl my_X12_takes mv_X12_takes tw_6_200 ⟨Nat.le_of_ble_eq_true rfl, Nat.le_of_ble_eq_true rfl⟩ ⟨Nat.zero_le _, Nat.zero_le _⟩ rfl hl.1 rfl rfl (Nat.le_of_ble_eq_true rfl) dX12_readFlag_47 (fun H locs hw => ?_)
      obtain ⟨h10, e, hf⟩ := ob hf
      refine q_stI e B hw dX12_readFlag_50 (fun H locs hw => ?_)
      refine lv_goto (tgt := 56) hx hb dX12_readFlag_51 (by decide) ?_
      exact w_X12_readFlag_56 G B hz hc0 hr hlk  h10 v0 _ _ _ hw (lv_sub hl [0] rfl) hf
  · have hf := (if_neg c3).symm.trans hf
    refine lv_aload_n hx hb dX12_readFlag_8 rfl (lv_at hl 0 rfl) ?_
    obtain ⟨a11, e, hf⟩ := ob hf
    refine q_getR e B hw fd_12_4.1 fd_12_4.2.1 fd_12_4.2.2.1 fd_12_4.2.2.2.1 fd_12_4.2.2.2.2 rfl tw_6_47 dX12_readFlag_9 ?_
    refine lv_bipush (v := 54) hx hb dX12_readFlag_12 (by decide) ?_
    refine lv_iload_n hx hb dX12_readFlag_14 rfl (lv_at hl 1 rfl) ?_
    refine lv_iadd hx hb dX12_readFlag_15 ?_
    refine lv_aload_n hx hb dX12_readFlag_16 rfl (lv_at hl 0 rfl) ?_
    refine lv_iconst (v := 0) hx hb dX12_readFlag_17 (by decide) ?_
    refine lv_bipush (v := 9) hx hb dX12_readFlag_18 (by decide) ?_
    obtain ⟨⟨x12, h13⟩, e, hf⟩ := ob hf
    refine q_callV (As := [.int 0, .int 9]) (rest := [.int (54 + v1), .ref a11]) (st1 := [.int x12, .int (54 + v1), .ref a11]) (c_X12_takes G e) B hw hz hc0 (k_X12_takes e) (by decide) (ci := 12) rfl rfl my_X12_takes mv_X12_takes tw_6_200 ⟨Nat.le_of_ble_eq_true rfl, Nat.le_of_ble_eq_true rfl⟩ ⟨Nat.zero_le _, Nat.zero_le _⟩ rfl hl.1 rfl rfl (Nat.le_of_ble_eq_true rfl) dX12_readFlag_20 (fun H locs hw => ?_)
    obtain ⟨h14, e, hf⟩ := ob hf
    refine q_stI e B hw dX12_readFlag_23 (fun H locs hw => ?_)
    refine lv_goto (tgt := 56) hx hb dX12_readFlag_24 (by decide) ?_
    exact w_X12_readFlag_56 G B hz hc0 hr hlk  h14 v0 _ _ _ hw (lv_sub hl [0] rfl) hf
/-! SecondLifeModel.readPerson()V -/
def f_X12_readPerson_59 (n : Nat) (z : Sh) (h : Hp) (v0 : Nat) : Option (Hp) :=
  (gI z h 12 v0 11).bind fun x1 =>
  if x1 = 0 then
    (gR z h 12 v0 4).bind fun a3 =>
    (ldI z h a3 3).bind fun x4 =>
    (stI z h a3 3 (x4 + 1)).bind fun h5 =>
    some h5
  else
    some h
def f_X12_readPerson_41 (n : Nat) (z : Sh) : Nat → Hp → Nat → Int32 → Option (Hp)
  | 0, _, _, _ => none
  | i + 1, h, v0, v1 =>
    (gI z h 12 v0 11).bind fun x1 =>
    if x1 = 0 then
      (f_X12_readFlag n z h v0 v1).bind fun (x3, h4) =>
      if x3 = 0 then
        f_X12_readPerson_59 n z h4 v0
      else
        (f_X12_readPerson_41 n z i) h4 v0 v1
    else
      f_X12_readPerson_59 n z h v0
def f_X12_readPerson_18 (n : Nat) (z : Sh) (h : Hp) (v0 : Nat) (v1 : Int32) : Option (Hp) :=
  (gI z h 12 v0 11).bind fun x1 =>
  if x1 = 0 then
    (f_X12_next n z h v0).bind fun h3 =>
    (gR z h3 12 v0 4).bind fun a4 =>
    (stI z h3 a4 (11 + v1) 9).bind fun h5 =>
    f_X12_readPerson_41 n z n h5 v0 v1
  else
    some h
def f_X12_readPerson (n : Nat) (z : Sh) (h : Hp) (v0 : Nat) : Option (Hp) :=
  if z.K v0 = 12 then
    (gR z h 12 v0 4).bind fun a1 =>
    (ldI z h a1 3).bind fun x2 =>
    if x2 = 6 then
      (f_X12_fails z h v0 4).bind fun h4 =>
      f_X12_readPerson_18 n z h4 v0 x2
    else
      f_X12_readPerson_18 n z h v0 x2
  else none
theorem k_X12_readPerson {n : Nat} {z : Sh} {h : Hp} {v0 : Nat} {w : Hp} (hf : f_X12_readPerson n z h v0 = some w) : z.K v0 = 12 := by
  unfold f_X12_readPerson at hf
  exact (if_some hf).1
set_option maxHeartbeats 4000000 in
theorem w_X12_readPerson_59 {p : Program} {l : Launch} {e : Env} {s : State} {m : MethodId} {args : Array Value} {below : List Frame} {meth : Method} {c : Code} {s0 : State} {E : Ev} {z : Sh} {n : Nat} {h' : Hp} (G : Gl s0 E) (B : Bd p s0 s E m c cX12_readPerson 2 RX12) (hz : s0.heap.size ≤ z.sz) (hc0 : s.heap.size + 0 = z.sz) (hr : meth.sig.returnType = none) (hlk : meth.locks = false) : ∀ (h : Hp) (v0 : Nat) (H : Heap) (locs : List Loc) (ls : Array Slot), Pw s0 s E z h H locs → lv_has ls 2 [(0, .ref v0)] → f_X12_readPerson_59 n z h v0 = some h' → W p l e (rmO 8 173) s m args below meth c H locs 0 0 (Zt below s0 E z h' (none) args s 0 0) (F0 m 59 ls []) := by
  have hx := B.1
  have hb := B.2.1
  intro h v0 H locs ls hw hl hf
  unfold f_X12_readPerson_59 at hf
  refine lv_aload_n hx hb dX12_readPerson_59 rfl (lv_at hl 0 rfl) ?_
  obtain ⟨x1, e, hf⟩ := ob hf
  refine q_getI e B hw fd_12_11.1 fd_12_11.2.1 fd_12_11.2.2.1 fd_12_11.2.2.2.1 fd_12_11.2.2.2.2 rfl tw_6_54 dX12_readPerson_60 ?_
  refine lv_if_ne (tgt := 76) hx hb dX12_readPerson_63 (by decide) (fun c2 => ?_) (fun c2 => ?_)
  · have hf := (if_neg c2).symm.trans hf
    obtain rfl := so hf
    exact q_vret B hw hz hc0 hr hlk dX12_readPerson_76
  · have hf := (if_pos c2).symm.trans hf
    refine lv_aload_n hx hb dX12_readPerson_66 rfl (lv_at hl 0 rfl) ?_
    obtain ⟨a3, e, hf⟩ := ob hf
    refine q_getR e B hw fd_12_4.1 fd_12_4.2.1 fd_12_4.2.2.1 fd_12_4.2.2.2.1 fd_12_4.2.2.2.2 rfl tw_6_47 dX12_readPerson_67 ?_
    refine lv_iconst (v := 3) hx hb dX12_readPerson_70 (by decide) ?_
    refine lv_dup2_11 hx hb dX12_readPerson_71 rfl rfl ?_
    obtain ⟨x4, e, hf⟩ := ob hf
    refine q_ldI e B hw dX12_readPerson_72 ?_
    refine lv_iconst (v := 1) hx hb dX12_readPerson_73 (by decide) ?_
    refine lv_iadd hx hb dX12_readPerson_74 ?_
    obtain ⟨h5, e, hf⟩ := ob hf
    refine q_stI e B hw dX12_readPerson_75 (fun H locs hw => ?_)
    obtain rfl := so hf
    exact q_vret B hw hz hc0 hr hlk dX12_readPerson_76
set_option maxHeartbeats 4000000 in
theorem w_X12_readPerson_41 {p : Program} {l : Launch} {e : Env} {s : State} {m : MethodId} {args : Array Value} {below : List Frame} {meth : Method} {c : Code} {s0 : State} {E : Ev} {z : Sh} {n : Nat} {h' : Hp} (G : Gl s0 E) (B : Bd p s0 s E m c cX12_readPerson 2 RX12) (hz : s0.heap.size ≤ z.sz) (hc0 : s.heap.size + 0 = z.sz) (hr : meth.sig.returnType = none) (hlk : meth.locks = false) : ∀ (i : Nat), ∀ (h : Hp) (v0 : Nat) (v1 : Int32) (H : Heap) (locs : List Loc) (ls : Array Slot), Pw s0 s E z h H locs → lv_has ls 2 [(0, .ref v0), (1, .int v1)] → f_X12_readPerson_41 n z i h v0 v1 = some h' → W p l e (rmO 8 173) s m args below meth c H locs 0 0 (Zt below s0 E z h' (none) args s 0 0) (F0 m 41 ls []) := by
  have hx := B.1
  have hb := B.2.1
  intro i
  induction i with
  | zero =>
    intro h v0 v1 H locs ls hw hl hf
    have hf := (f_X12_readPerson_41.eq_1 ..).symm.trans hf
    cases hf
  | succ i ih =>
    intro h v0 v1 H locs ls hw hl hf
    have hf := (f_X12_readPerson_41.eq_2 ..).symm.trans hf
    refine lv_aload_n hx hb dX12_readPerson_41 rfl (lv_at hl 0 rfl) ?_
    obtain ⟨x1, e, hf⟩ := ob hf
    refine q_getI e B hw fd_12_11.1 fd_12_11.2.1 fd_12_11.2.2.1 fd_12_11.2.2.2.1 fd_12_11.2.2.2.2 rfl tw_6_54 dX12_readPerson_42 ?_
    refine lv_if_ne (tgt := 59) hx hb dX12_readPerson_45 (by decide) (fun c2 => ?_) (fun c2 => ?_)
    · have hf := (if_neg c2).symm.trans hf
      exact w_X12_readPerson_59 G B hz hc0 hr hlk  h v0 _ _ _ hw (lv_sub hl [0] rfl) hf
    · have hf := (if_pos c2).symm.trans hf
      refine lv_aload_n hx hb dX12_readPerson_48 rfl (lv_at hl 0 rfl) ?_
      refine lv_iload_n hx hb dX12_readPerson_49 rfl (lv_at hl 1 rfl) ?_
      obtain ⟨⟨x3, h4⟩, e, hf⟩ := ob hf
      refine q_callV (As := [.int v1]) (rest := []) (st1 := [.int x3]) (c_X12_readFlag G e) B hw hz hc0 (k_X12_readFlag e) (by decide) (ci := 12) rfl rfl my_X12_readFlag mv_X12_readFlag tw_6_216 ⟨Nat.le_of_ble_eq_true rfl, Nat.le_of_ble_eq_true rfl⟩ ⟨Nat.zero_le _, Nat.zero_le _⟩ rfl hl.1 rfl rfl (Nat.le_of_ble_eq_true rfl) dX12_readPerson_50 (fun H locs hw => ?_)
      refine lv_if_eq (tgt := 59) hx hb dX12_readPerson_53 (by decide) (fun c5 => ?_) (fun c5 => ?_)
      · have hf := (if_pos c5).symm.trans hf
        exact w_X12_readPerson_59 G B hz hc0 hr hlk  h4 v0 _ _ _ hw (lv_sub hl [0] rfl) hf
      · have hf := (if_neg c5).symm.trans hf
        refine lv_goto (tgt := 41) hx hb dX12_readPerson_56 (by decide) ?_
        exact ih h4 v0 v1 _ _ _ hw (lv_sub hl [0, 1] rfl) hf
set_option maxHeartbeats 4000000 in
theorem w_X12_readPerson_18 {p : Program} {l : Launch} {e : Env} {s : State} {m : MethodId} {args : Array Value} {below : List Frame} {meth : Method} {c : Code} {s0 : State} {E : Ev} {z : Sh} {n : Nat} {h' : Hp} (G : Gl s0 E) (B : Bd p s0 s E m c cX12_readPerson 2 RX12) (hz : s0.heap.size ≤ z.sz) (hc0 : s.heap.size + 0 = z.sz) (hr : meth.sig.returnType = none) (hlk : meth.locks = false) : ∀ (h : Hp) (v0 : Nat) (v1 : Int32) (H : Heap) (locs : List Loc) (ls : Array Slot), Pw s0 s E z h H locs → lv_has ls 2 [(0, .ref v0), (1, .int v1)] → f_X12_readPerson_18 n z h v0 v1 = some h' → W p l e (rmO 8 173) s m args below meth c H locs 0 0 (Zt below s0 E z h' (none) args s 0 0) (F0 m 18 ls []) := by
  have hx := B.1
  have hb := B.2.1
  intro h v0 v1 H locs ls hw hl hf
  unfold f_X12_readPerson_18 at hf
  refine lv_aload_n hx hb dX12_readPerson_18 rfl (lv_at hl 0 rfl) ?_
  obtain ⟨x1, e, hf⟩ := ob hf
  refine q_getI e B hw fd_12_11.1 fd_12_11.2.1 fd_12_11.2.2.1 fd_12_11.2.2.2.1 fd_12_11.2.2.2.2 rfl tw_6_54 dX12_readPerson_19 ?_
  refine lv_if_eq (tgt := 26) hx hb dX12_readPerson_22 (by decide) (fun c2 => ?_) (fun c2 => ?_)
  · have hf := (if_pos c2).symm.trans hf
    refine lv_aload_n hx hb dX12_readPerson_26 rfl (lv_at hl 0 rfl) ?_
    obtain ⟨h3, e, hf⟩ := ob hf
    refine q_callV (As := []) (rest := []) (st1 := []) (c_X12_next G e) B hw hz hc0 (k_X12_next e) (by decide) (ci := 12) rfl rfl my_X12_next mv_X12_next tw_6_166 ⟨Nat.le_of_ble_eq_true rfl, Nat.le_of_ble_eq_true rfl⟩ ⟨Nat.zero_le _, Nat.zero_le _⟩ rfl hl.1 rfl rfl (Nat.le_of_ble_eq_true rfl) dX12_readPerson_27 (fun H locs hw => ?_)
    refine lv_aload_n hx hb dX12_readPerson_30 rfl (lv_at hl 0 rfl) ?_
    obtain ⟨a4, e, hf⟩ := ob hf
    refine q_getR e B hw fd_12_4.1 fd_12_4.2.1 fd_12_4.2.2.1 fd_12_4.2.2.2.1 fd_12_4.2.2.2.2 rfl tw_6_47 dX12_readPerson_31 ?_
    refine lv_bipush (v := 11) hx hb dX12_readPerson_34 (by decide) ?_
    refine lv_iload_n hx hb dX12_readPerson_36 rfl (lv_at hl 1 rfl) ?_
    refine lv_iadd hx hb dX12_readPerson_37 ?_
    refine lv_bipush (v := 9) hx hb dX12_readPerson_38 (by decide) ?_
    obtain ⟨h5, e, hf⟩ := ob hf
    refine q_stI e B hw dX12_readPerson_40 (fun H locs hw => ?_)
    exact w_X12_readPerson_41 G B hz hc0 hr hlk  n h5 v0 v1 _ _ _ hw (lv_sub hl [0, 1] rfl) hf
  · have hf := (if_neg c2).symm.trans hf
    obtain rfl := so hf
    exact q_vret B hw hz hc0 hr hlk dX12_readPerson_25
set_option maxHeartbeats 4000000 in
theorem c_X12_readPerson {l : Launch} {s0 : State} {E : Ev} (G : Gl s0 E) {n : Nat} {z : Sh} {h : Hp} {v0 : Nat} {h' : Hp} (hf : f_X12_readPerson n z h v0 = some h') : Ct l s0 E yX12_readPerson cX12_readPerson 2 none 8 173 [.ref v0] z h h' (none) := by
  refine Ct.of G (by decide) (Nat.le_of_ble_eq_true rfl) ?_
  intro p e s m below meth c ls B hw hz hc0 hr hlk hl
  have B : Bd p s0 s E m c cX12_readPerson 2 RX12 := B
  have hx := B.1
  have hb := B.2.1
  have hl : lv_has ls 2 [(0, .ref v0)] := hl
  unfold f_X12_readPerson at hf
  obtain ⟨_, hf⟩ := if_some hf
  refine lv_aload_n hx hb dX12_readPerson_0 rfl (lv_at hl 0 rfl) ?_
  obtain ⟨a1, e, hf⟩ := ob hf
  refine q_getR e B hw fd_12_4.1 fd_12_4.2.1 fd_12_4.2.2.1 fd_12_4.2.2.2.1 fd_12_4.2.2.2.2 rfl tw_6_47 dX12_readPerson_1 ?_
  refine lv_iconst (v := 3) hx hb dX12_readPerson_4 (by decide) ?_
  obtain ⟨x2, e, hf⟩ := ob hf
  refine q_ldI e B hw dX12_readPerson_5 ?_
  refine lv_istore_n (lv' := [(1, .int x2), (0, .ref v0)]) hx hb dX12_readPerson_6 rfl hl (by decide) rfl (fun ls hl => ?_)
  refine lv_iload_n hx hb dX12_readPerson_7 rfl (lv_at hl 0 rfl) ?_
  refine lv_bipush (v := 6) hx hb dX12_readPerson_8 (by decide) ?_
  refine lv_icmp_ne (tgt := 18) hx hb dX12_readPerson_10 (by decide) (fun c3 => ?_) (fun c3 => ?_)
  · have hf := (if_neg c3).symm.trans hf
    exact w_X12_readPerson_18 G B hz hc0 hr hlk  h v0 x2 _ _ _ hw (lv_sub hl [1, 0] rfl) hf
  · have hf := (if_pos c3).symm.trans hf
    refine lv_aload_n hx hb dX12_readPerson_13 rfl (lv_at hl 1 rfl) ?_
    refine lv_iconst (v := 4) hx hb dX12_readPerson_14 (by decide) ?_
    obtain ⟨h4, e, hf⟩ := ob hf
    refine q_callV (As := [.int 4]) (rest := []) (st1 := []) (c_X12_fails G e) B hw hz hc0 (k_X12_fails e) (by decide) (ci := 12) rfl rfl my_X12_fails mv_X12_fails tw_6_196 ⟨Nat.le_of_ble_eq_true rfl, Nat.le_of_ble_eq_true rfl⟩ ⟨Nat.zero_le _, Nat.zero_le _⟩ rfl hl.1 rfl rfl (Nat.le_of_ble_eq_true rfl) dX12_readPerson_15 (fun H locs hw => ?_)
    exact w_X12_readPerson_18 G B hz hc0 hr hlk  h4 v0 x2 _ _ _ hw (lv_sub hl [1, 0] rfl) hf
/-! SecondLifeModel.readLaw(I)V -/
def f_X12_readLaw_18 (n : Nat) (z : Sh) (h : Hp) (v0 : Nat) (v1 : Int32) : Option (Hp) :=
  (gR z h 12 v0 4).bind fun a1 =>
  (ldI z h a1 557).bind fun x2 =>
  (pI z h 12 v0 15 v1).bind fun h3 =>
  (f_X12_readSum n z h3 v0 0).bind fun h4 =>
  (gI z h4 12 v0 11).bind fun x5 =>
  if x5 = 0 then
    (gR z h4 12 v0 4).bind fun a7 =>
    (stI z h4 a7 (5 + v1) 1).bind fun h8 =>
    (gR z h8 12 v0 4).bind fun a9 =>
    (stI z h8 a9 (7 + v1) x2).bind fun h10 =>
    (gR z h10 12 v0 4).bind fun a11 =>
    (gR z h10 12 v0 4).bind fun a12 =>
    (ldI z h10 a12 557).bind fun x13 =>
    (stI z h10 a11 (9 + v1) (x13 - x2)).bind fun h14 =>
    some h14
  else
    some h4
def f_X12_readLaw (n : Nat) (z : Sh) (h : Hp) (v0 : Nat) (v1 : Int32) : Option (Hp) :=
  if z.K v0 = 12 then
    (f_X12_next n z h v0).bind fun h1 =>
    (f_X12_eats n z h1 v0 31).bind fun (x2, h3) =>
    if x2 = 0 then
      (f_X12_fails z h3 v0 2).bind fun h5 =>
      f_X12_readLaw_18 n z h5 v0 v1
    else
      f_X12_readLaw_18 n z h3 v0 v1
  else none
theorem k_X12_readLaw {n : Nat} {z : Sh} {h : Hp} {v0 : Nat} {v1 : Int32} {w : Hp} (hf : f_X12_readLaw n z h v0 v1 = some w) : z.K v0 = 12 := by
  unfold f_X12_readLaw at hf
  exact (if_some hf).1
set_option maxHeartbeats 4000000 in
theorem w_X12_readLaw_18 {p : Program} {l : Launch} {e : Env} {s : State} {m : MethodId} {args : Array Value} {below : List Frame} {meth : Method} {c : Code} {s0 : State} {E : Ev} {z : Sh} {n : Nat} {h' : Hp} (G : Gl s0 E) (B : Bd p s0 s E m c cX12_readLaw 3 RX12) (hz : s0.heap.size ≤ z.sz) (hc0 : s.heap.size + 0 = z.sz) (hr : meth.sig.returnType = none) (hlk : meth.locks = false) : ∀ (h : Hp) (v0 : Nat) (v1 : Int32) (H : Heap) (locs : List Loc) (ls : Array Slot), Pw s0 s E z h H locs → lv_has ls 3 [(0, .ref v0), (1, .int v1)] → f_X12_readLaw_18 n z h v0 v1 = some h' → W p l e (rmO 69 3773) s m args below meth c H locs 0 0 (Zt below s0 E z h' (none) args s 0 0) (F0 m 18 ls []) := by
  have hx := B.1
  have hb := B.2.1
  intro h v0 v1 H locs ls hw hl hf
  unfold f_X12_readLaw_18 at hf
  refine lv_aload_n hx hb dX12_readLaw_18 rfl (lv_at hl 0 rfl) ?_
  obtain ⟨a1, e, hf⟩ := ob hf
  refine q_getR e B hw fd_12_4.1 fd_12_4.2.1 fd_12_4.2.2.1 fd_12_4.2.2.2.1 fd_12_4.2.2.2.2 rfl tw_6_47 dX12_readLaw_19 ?_
  refine lv_sipush (v := 557) hx hb dX12_readLaw_22 (by decide) ?_
  obtain ⟨x2, e, hf⟩ := ob hf
  refine q_ldI e B hw dX12_readLaw_25 ?_
  refine lv_istore_n (lv' := [(2, .int x2), (0, .ref v0), (1, .int v1)]) hx hb dX12_readLaw_26 rfl hl (by decide) rfl (fun ls hl => ?_)
  refine lv_aload_n hx hb dX12_readLaw_27 rfl (lv_at hl 1 rfl) ?_
  refine lv_iload_n hx hb dX12_readLaw_28 rfl (lv_at hl 2 rfl) ?_
  obtain ⟨h3, e, hf⟩ := ob hf
  refine q_putI e B hw fd_12_15.1 fd_12_15.2.1 fd_12_15.2.2.1 fd_12_15.2.2.2.1 fd_12_15.2.2.2.2 rfl rfl (tyX12_ok 15 (by decide)) tyX12 tyX12_ok nmX12 tw_6_58 dX12_readLaw_29 (fun H locs hw => ?_)
  refine lv_aload_n hx hb dX12_readLaw_32 rfl (lv_at hl 1 rfl) ?_
  refine lv_iconst (v := 0) hx hb dX12_readLaw_33 (by decide) ?_
  obtain ⟨h4, e, hf⟩ := ob hf
  refine q_callV (As := [.int 0]) (rest := []) (st1 := []) (c_X12_readSum G e) B hw hz hc0 (k_X12_readSum e) (by decide) (ci := 12) rfl rfl my_X12_readSum mv_X12_readSum tw_6_224 ⟨Nat.le_of_ble_eq_true rfl, Nat.le_of_ble_eq_true rfl⟩ ⟨Nat.zero_le _, Nat.zero_le _⟩ rfl hl.1 rfl rfl (Nat.le_of_ble_eq_true rfl) dX12_readLaw_34 (fun H locs hw => ?_)
  refine lv_aload_n hx hb dX12_readLaw_37 rfl (lv_at hl 1 rfl) ?_
  obtain ⟨x5, e, hf⟩ := ob hf
  refine q_getI e B hw fd_12_11.1 fd_12_11.2.1 fd_12_11.2.2.1 fd_12_11.2.2.2.1 fd_12_11.2.2.2.2 rfl tw_6_54 dX12_readLaw_38 ?_
  refine lv_if_eq (tgt := 45) hx hb dX12_readLaw_41 (by decide) (fun c6 => ?_) (fun c6 => ?_)
  · have hf := (if_pos c6).symm.trans hf
    refine lv_aload_n hx hb dX12_readLaw_45 rfl (lv_at hl 1 rfl) ?_
    obtain ⟨a7, e, hf⟩ := ob hf
    refine q_getR e B hw fd_12_4.1 fd_12_4.2.1 fd_12_4.2.2.1 fd_12_4.2.2.2.1 fd_12_4.2.2.2.2 rfl tw_6_47 dX12_readLaw_46 ?_
    refine lv_iconst (v := 5) hx hb dX12_readLaw_49 (by decide) ?_
    refine lv_iload_n hx hb dX12_readLaw_50 rfl (lv_at hl 2 rfl) ?_
    refine lv_iadd hx hb dX12_readLaw_51 ?_
    refine lv_iconst (v := 1) hx hb dX12_readLaw_52 (by decide) ?_
    obtain ⟨h8, e, hf⟩ := ob hf
    refine q_stI e B hw dX12_readLaw_53 (fun H locs hw => ?_)
    refine lv_aload_n hx hb dX12_readLaw_54 rfl (lv_at hl 1 rfl) ?_
    obtain ⟨a9, e, hf⟩ := ob hf
    refine q_getR e B hw fd_12_4.1 fd_12_4.2.1 fd_12_4.2.2.1 fd_12_4.2.2.2.1 fd_12_4.2.2.2.2 rfl tw_6_47 dX12_readLaw_55 ?_
    refine lv_bipush (v := 7) hx hb dX12_readLaw_58 (by decide) ?_
    refine lv_iload_n hx hb dX12_readLaw_60 rfl (lv_at hl 2 rfl) ?_
    refine lv_iadd hx hb dX12_readLaw_61 ?_
    refine lv_iload_n hx hb dX12_readLaw_62 rfl (lv_at hl 0 rfl) ?_
    obtain ⟨h10, e, hf⟩ := ob hf
    refine q_stI e B hw dX12_readLaw_63 (fun H locs hw => ?_)
    refine lv_aload_n hx hb dX12_readLaw_64 rfl (lv_at hl 1 rfl) ?_
    obtain ⟨a11, e, hf⟩ := ob hf
    refine q_getR e B hw fd_12_4.1 fd_12_4.2.1 fd_12_4.2.2.1 fd_12_4.2.2.2.1 fd_12_4.2.2.2.2 rfl tw_6_47 dX12_readLaw_65 ?_
    refine lv_bipush (v := 9) hx hb dX12_readLaw_68 (by decide) ?_
    refine lv_iload_n hx hb dX12_readLaw_70 rfl (lv_at hl 2 rfl) ?_
    refine lv_iadd hx hb dX12_readLaw_71 ?_
    refine lv_aload_n hx hb dX12_readLaw_72 rfl (lv_at hl 1 rfl) ?_
    obtain ⟨a12, e, hf⟩ := ob hf
    refine q_getR e B hw fd_12_4.1 fd_12_4.2.1 fd_12_4.2.2.1 fd_12_4.2.2.2.1 fd_12_4.2.2.2.2 rfl tw_6_47 dX12_readLaw_73 ?_
    refine lv_sipush (v := 557) hx hb dX12_readLaw_76 (by decide) ?_
    obtain ⟨x13, e, hf⟩ := ob hf
    refine q_ldI e B hw dX12_readLaw_79 ?_
    refine lv_iload_n hx hb dX12_readLaw_80 rfl (lv_at hl 0 rfl) ?_
    refine lv_isub hx hb dX12_readLaw_81 ?_
    obtain ⟨h14, e, hf⟩ := ob hf
    refine q_stI e B hw dX12_readLaw_82 (fun H locs hw => ?_)
    obtain rfl := so hf
    exact q_vret B hw hz hc0 hr hlk dX12_readLaw_83
  · have hf := (if_neg c6).symm.trans hf
    obtain rfl := so hf
    exact q_vret B hw hz hc0 hr hlk dX12_readLaw_44
set_option maxHeartbeats 4000000 in
theorem c_X12_readLaw {l : Launch} {s0 : State} {E : Ev} (G : Gl s0 E) {n : Nat} {z : Sh} {h : Hp} {v0 : Nat} {v1 : Int32} {h' : Hp} (hf : f_X12_readLaw n z h v0 v1 = some h') : Ct l s0 E yX12_readLaw cX12_readLaw 3 none 69 3773 [.ref v0, .int v1] z h h' (none) := by
  refine Ct.of G (by decide) (Nat.le_of_ble_eq_true rfl) ?_
  intro p e s m below meth c ls B hw hz hc0 hr hlk hl
  have B : Bd p s0 s E m c cX12_readLaw 3 RX12 := B
  have hx := B.1
  have hb := B.2.1
  have hl : lv_has ls 3 [(0, .ref v0), (1, .int v1)] := hl
  unfold f_X12_readLaw at hf
  obtain ⟨_, hf⟩ := if_some hf
  refine lv_aload_n hx hb dX12_readLaw_0 rfl (lv_at hl 0 rfl) ?_
  obtain ⟨h1, e, hf⟩ := ob hf
  refine q_callV (As := []) (rest := []) (st1 := []) (c_X12_next G e) B hw hz hc0 (k_X12_next e) (by decide) (ci := 12) rfl rfl my_X12_next mv_X12_next tw_6_166 ⟨Nat.le_of_ble_eq_true rfl, Nat.le_of_ble_eq_true rfl⟩ ⟨Nat.zero_le _, Nat.zero_le _⟩ rfl hl.1 rfl rfl (Nat.le_of_ble_eq_true rfl) dX12_readLaw_1 (fun H locs hw => ?_)
  refine lv_aload_n hx hb dX12_readLaw_4 rfl (lv_at hl 0 rfl) ?_
  refine lv_bipush (v := 31) hx hb dX12_readLaw_5 (by decide) ?_
  obtain ⟨⟨x2, h3⟩, e, hf⟩ := ob hf
  refine q_callV (As := [.int 31]) (rest := []) (st1 := [.int x2]) (c_X12_eats G e) B hw hz hc0 (k_X12_eats e) (by decide) (ci := 12) rfl rfl my_X12_eats mv_X12_eats tw_6_188 ⟨Nat.le_of_ble_eq_true rfl, Nat.le_of_ble_eq_true rfl⟩ ⟨Nat.zero_le _, Nat.zero_le _⟩ rfl hl.1 rfl rfl (Nat.le_of_ble_eq_true rfl) dX12_readLaw_7 (fun H locs hw => ?_)
  refine lv_if_ne (tgt := 18) hx hb dX12_readLaw_10 (by decide) (fun c4 => ?_) (fun c4 => ?_)
  · have hf := (if_neg c4).symm.trans hf
    exact w_X12_readLaw_18 G B hz hc0 hr hlk  h3 v0 v1 _ _ _ hw (lv_sub hl [0, 1] rfl) hf
  · have hf := (if_pos c4).symm.trans hf
    refine lv_aload_n hx hb dX12_readLaw_13 rfl (lv_at hl 0 rfl) ?_
    refine lv_iconst (v := 2) hx hb dX12_readLaw_14 (by decide) ?_
    obtain ⟨h5, e, hf⟩ := ob hf
    refine q_callV (As := [.int 2]) (rest := []) (st1 := []) (c_X12_fails G e) B hw hz hc0 (k_X12_fails e) (by decide) (ci := 12) rfl rfl my_X12_fails mv_X12_fails tw_6_196 ⟨Nat.le_of_ble_eq_true rfl, Nat.le_of_ble_eq_true rfl⟩ ⟨Nat.zero_le _, Nat.zero_le _⟩ rfl hl.1 rfl rfl (Nat.le_of_ble_eq_true rfl) dX12_readLaw_15 (fun H locs hw => ?_)
    exact w_X12_readLaw_18 G B hz hc0 hr hlk  h5 v0 v1 _ _ _ hw (lv_sub hl [0, 1] rfl) hf
/-! SecondLifeModel.readLine()V -/
def f_X12_readLine_93 (n : Nat) (z : Sh) (h : Hp) (v0 : Nat) : Option (Hp) :=
  (gI z h 12 v0 9).bind fun x1 =>
  (f_X12_readLaw n z h v0 (x1 - 8)).bind fun h2 =>
  some h2
def f_X12_readLine (n : Nat) (z : Sh) (h : Hp) (v0 : Nat) : Option (Hp) :=
  if z.K v0 = 12 then
    (gI z h 12 v0 11).bind fun x1 =>
    if x1 = 0 then
      (f_X12_is z h v0 3).bind fun x3 =>
      if x3 = 0 then
        (f_X12_eats n z h v0 6).bind fun (x5, h6) =>
        if x5 = 0 then
          (f_X12_eats n z h6 v0 7).bind fun (x8, h9) =>
          if x8 = 0 then
            (f_X12_is z h9 v0 8).bind fun x11 =>
            if x11 = 0 then
              (f_X12_is z h9 v0 9).bind fun x13 =>
              if x13 = 0 then
                (f_X12_fails z h9 v0 2).bind fun h15 =>
                some h15
              else
                f_X12_readLine_93 n z h9 v0
            else
              f_X12_readLine_93 n z h9 v0
          else
            (gR z h9 12 v0 4).bind fun a16 =>
            (f_X12_takes n z h9 v0 0 10).bind fun (x17, h18) =>
            (stI z h18 a16 4 x17).bind fun h19 =>
            some h19
        else
          (gR z h6 12 v0 4).bind fun a20 =>
          (f_X12_takes n z h6 v0 0 999).bind fun (x21, h22) =>
          (stI z h22 a20 17 x21).bind fun h23 =>
          some h23
      else
        (f_X12_readPerson n z h v0).bind fun h24 =>
        some h24
    else
      some h
  else none
theorem k_X12_readLine {n : Nat} {z : Sh} {h : Hp} {v0 : Nat} {w : Hp} (hf : f_X12_readLine n z h v0 = some w) : z.K v0 = 12 := by
  unfold f_X12_readLine at hf
  exact (if_some hf).1
set_option maxHeartbeats 4000000 in
theorem w_X12_readLine_93 {p : Program} {l : Launch} {e : Env} {s : State} {m : MethodId} {args : Array Value} {below : List Frame} {meth : Method} {c : Code} {s0 : State} {E : Ev} {z : Sh} {n : Nat} {h' : Hp} (G : Gl s0 E) (B : Bd p s0 s E m c cX12_readLine 1 RX12) (hz : s0.heap.size ≤ z.sz) (hc0 : s.heap.size + 0 = z.sz) (hr : meth.sig.returnType = none) (hlk : meth.locks = false) : ∀ (h : Hp) (v0 : Nat) (H : Heap) (locs : List Loc) (ls : Array Slot), Pw s0 s E z h H locs → lv_has ls 1 [(0, .ref v0)] → f_X12_readLine_93 n z h v0 = some h' → W p l e (rmO 70 3795) s m args below meth c H locs 0 0 (Zt below s0 E z h' (none) args s 0 0) (F0 m 93 ls []) := by
  have hx := B.1
  have hb := B.2.1
  intro h v0 H locs ls hw hl hf
  unfold f_X12_readLine_93 at hf
  refine lv_aload_n hx hb dX12_readLine_93 rfl (lv_at hl 0 rfl) ?_
  refine lv_aload_n hx hb dX12_readLine_94 rfl (lv_at hl 0 rfl) ?_
  obtain ⟨x1, e, hf⟩ := ob hf
  refine q_getI e B hw fd_12_9.1 fd_12_9.2.1 fd_12_9.2.2.1 fd_12_9.2.2.2.1 fd_12_9.2.2.2.2 rfl tw_6_52 dX12_readLine_95 ?_
  refine lv_bipush (v := 8) hx hb dX12_readLine_98 (by decide) ?_
  refine lv_isub hx hb dX12_readLine_100 ?_
  obtain ⟨h2, e, hf⟩ := ob hf
  refine q_callV (As := [.int (x1 - 8)]) (rest := []) (st1 := []) (c_X12_readLaw G e) B hw hz hc0 (k_X12_readLaw e) (by decide) (ci := 12) rfl rfl my_X12_readLaw mv_X12_readLaw tw_6_220 ⟨Nat.le_of_ble_eq_true rfl, Nat.le_of_ble_eq_true rfl⟩ ⟨Nat.zero_le _, Nat.zero_le _⟩ rfl hl.1 rfl rfl (Nat.le_of_ble_eq_true rfl) dX12_readLine_101 (fun H locs hw => ?_)
  refine lv_goto (tgt := 112) hx hb dX12_readLine_104 (by decide) ?_
  obtain rfl := so hf
  exact q_vret B hw hz hc0 hr hlk dX12_readLine_112
set_option maxHeartbeats 4000000 in
theorem c_X12_readLine {l : Launch} {s0 : State} {E : Ev} (G : Gl s0 E) {n : Nat} {z : Sh} {h : Hp} {v0 : Nat} {h' : Hp} (hf : f_X12_readLine n z h v0 = some h') : Ct l s0 E yX12_readLine cX12_readLine 1 none 70 3795 [.ref v0] z h h' (none) := by
  refine Ct.of G (by decide) (Nat.le_of_ble_eq_true rfl) ?_
  intro p e s m below meth c ls B hw hz hc0 hr hlk hl
  have B : Bd p s0 s E m c cX12_readLine 1 RX12 := B
  have hx := B.1
  have hb := B.2.1
  have hl : lv_has ls 1 [(0, .ref v0)] := hl
  unfold f_X12_readLine at hf
  obtain ⟨_, hf⟩ := if_some hf
  refine lv_aload_n hx hb dX12_readLine_0 rfl (lv_at hl 0 rfl) ?_
  obtain ⟨x1, e, hf⟩ := ob hf
  refine q_getI e B hw fd_12_11.1 fd_12_11.2.1 fd_12_11.2.2.1 fd_12_11.2.2.2.1 fd_12_11.2.2.2.2 rfl tw_6_54 dX12_readLine_1 ?_
  refine lv_if_eq (tgt := 8) hx hb dX12_readLine_4 (by decide) (fun c2 => ?_) (fun c2 => ?_)
  · have hf := (if_pos c2).symm.trans hf
    refine lv_aload_n hx hb dX12_readLine_8 rfl (lv_at hl 0 rfl) ?_
    refine lv_iconst (v := 3) hx hb dX12_readLine_9 (by decide) ?_
    obtain ⟨x3, e, hf⟩ := ob hf
    refine q_callV (As := [.int 3]) (rest := []) (st1 := [.int x3]) (c_X12_is G e) B hw hz hc0 (k_X12_is e) (by decide) (ci := 12) rfl rfl my_X12_is mv_X12_is tw_6_192 ⟨Nat.le_of_ble_eq_true rfl, Nat.le_of_ble_eq_true rfl⟩ ⟨Nat.zero_le _, Nat.zero_le _⟩ rfl hl.1 rfl rfl (Nat.le_of_ble_eq_true rfl) dX12_readLine_10 (fun H locs hw => ?_)
    refine lv_if_eq (tgt := 23) hx hb dX12_readLine_13 (by decide) (fun c4 => ?_) (fun c4 => ?_)
    · have hf := (if_pos c4).symm.trans hf
      refine lv_aload_n hx hb dX12_readLine_23 rfl (lv_at hl 0 rfl) ?_
      refine lv_bipush (v := 6) hx hb dX12_readLine_24 (by decide) ?_
      obtain ⟨⟨x5, h6⟩, e, hf⟩ := ob hf
      refine q_callV (As := [.int 6]) (rest := []) (st1 := [.int x5]) (c_X12_eats G e) B hw hz hc0 (k_X12_eats e) (by decide) (ci := 12) rfl rfl my_X12_eats mv_X12_eats tw_6_188 ⟨Nat.le_of_ble_eq_true rfl, Nat.le_of_ble_eq_true rfl⟩ ⟨Nat.zero_le _, Nat.zero_le _⟩ rfl hl.1 rfl rfl (Nat.le_of_ble_eq_true rfl) dX12_readLine_26 (fun H locs hw => ?_)
      refine lv_if_eq (tgt := 50) hx hb dX12_readLine_29 (by decide) (fun c7 => ?_) (fun c7 => ?_)
      · have hf := (if_pos c7).symm.trans hf
        refine lv_aload_n hx hb dX12_readLine_50 rfl (lv_at hl 0 rfl) ?_
        refine lv_bipush (v := 7) hx hb dX12_readLine_51 (by decide) ?_
        obtain ⟨⟨x8, h9⟩, e, hf⟩ := ob hf
        refine q_callV (As := [.int 7]) (rest := []) (st1 := [.int x8]) (c_X12_eats G e) B hw hz hc0 (k_X12_eats e) (by decide) (ci := 12) rfl rfl my_X12_eats mv_X12_eats tw_6_188 ⟨Nat.le_of_ble_eq_true rfl, Nat.le_of_ble_eq_true rfl⟩ ⟨Nat.zero_le _, Nat.zero_le _⟩ rfl hl.1 rfl rfl (Nat.le_of_ble_eq_true rfl) dX12_readLine_53 (fun H locs hw => ?_)
        refine lv_if_eq (tgt := 75) hx hb dX12_readLine_56 (by decide) (fun c10 => ?_) (fun c10 => ?_)
        · have hf := (if_pos c10).symm.trans hf
          refine lv_aload_n hx hb dX12_readLine_75 rfl (lv_at hl 0 rfl) ?_
          refine lv_bipush (v := 8) hx hb dX12_readLine_76 (by decide) ?_
          obtain ⟨x11, e, hf⟩ := ob hf
          refine q_callV (As := [.int 8]) (rest := []) (st1 := [.int x11]) (c_X12_is G e) B hw hz hc0 (k_X12_is e) (by decide) (ci := 12) rfl rfl my_X12_is mv_X12_is tw_6_192 ⟨Nat.le_of_ble_eq_true rfl, Nat.le_of_ble_eq_true rfl⟩ ⟨Nat.zero_le _, Nat.zero_le _⟩ rfl hl.1 rfl rfl (Nat.le_of_ble_eq_true rfl) dX12_readLine_78 (fun H locs hw => ?_)
          refine lv_if_ne (tgt := 93) hx hb dX12_readLine_81 (by decide) (fun c12 => ?_) (fun c12 => ?_)
          · have hf := (if_neg c12).symm.trans hf
            exact w_X12_readLine_93 G B hz hc0 hr hlk  h9 v0 _ _ _ hw (lv_sub hl [0] rfl) hf
          · have hf := (if_pos c12).symm.trans hf
            refine lv_aload_n hx hb dX12_readLine_84 rfl (lv_at hl 0 rfl) ?_
            refine lv_bipush (v := 9) hx hb dX12_readLine_85 (by decide) ?_
            obtain ⟨x13, e, hf⟩ := ob hf
            refine q_callV (As := [.int 9]) (rest := []) (st1 := [.int x13]) (c_X12_is G e) B hw hz hc0 (k_X12_is e) (by decide) (ci := 12) rfl rfl my_X12_is mv_X12_is tw_6_192 ⟨Nat.le_of_ble_eq_true rfl, Nat.le_of_ble_eq_true rfl⟩ ⟨Nat.zero_le _, Nat.zero_le _⟩ rfl hl.1 rfl rfl (Nat.le_of_ble_eq_true rfl) dX12_readLine_87 (fun H locs hw => ?_)
            refine lv_if_eq (tgt := 107) hx hb dX12_readLine_90 (by decide) (fun c14 => ?_) (fun c14 => ?_)
            · have hf := (if_pos c14).symm.trans hf
              refine lv_aload_n hx hb dX12_readLine_107 rfl (lv_at hl 0 rfl) ?_
              refine lv_iconst (v := 2) hx hb dX12_readLine_108 (by decide) ?_
              obtain ⟨h15, e, hf⟩ := ob hf
              refine q_callV (As := [.int 2]) (rest := []) (st1 := []) (c_X12_fails G e) B hw hz hc0 (k_X12_fails e) (by decide) (ci := 12) rfl rfl my_X12_fails mv_X12_fails tw_6_196 ⟨Nat.le_of_ble_eq_true rfl, Nat.le_of_ble_eq_true rfl⟩ ⟨Nat.zero_le _, Nat.zero_le _⟩ rfl hl.1 rfl rfl (Nat.le_of_ble_eq_true rfl) dX12_readLine_109 (fun H locs hw => ?_)
              obtain rfl := so hf
              exact q_vret B hw hz hc0 hr hlk dX12_readLine_112
            · have hf := (if_neg c14).symm.trans hf
              exact w_X12_readLine_93 G B hz hc0 hr hlk  h9 v0 _ _ _ hw (lv_sub hl [0] rfl) hf
        · have hf := (if_neg c10).symm.trans hf
          refine lv_aload_n hx hb dX12_readLine_59 rfl (lv_at hl 0 rfl) ?_
          obtain ⟨a16, e, hf⟩ := ob hf
          refine q_getR e B hw fd_12_4.1 fd_12_4.2.1 fd_12_4.2.2.1 fd_12_4.2.2.2.1 fd_12_4.2.2.2.2 rfl tw_6_47 dX12_readLine_60 ?_
          refine lv_iconst (v := 4) hx hb dX12_readLine_63 (by decide) ?_
          refine lv_aload_n hx hb dX12_readLine_64 rfl (lv_at hl 0 rfl) ?_
          refine lv_iconst (v := 0) hx hb dX12_readLine_65 (by decide) ?_
          refine lv_bipush (v := 10) hx hb dX12_readLine_66 (by decide) ?_
          obtain ⟨⟨x17, h18⟩, e, hf⟩ := ob hf
          refine q_callV (As := [.int 0, .int 10]) (rest := [.int 4, .ref a16]) (st1 := [.int x17, .int 4, .ref a16]) (c_X12_takes G e) B hw hz hc0 (k_X12_takes e) (by decide) (ci := 12) rfl rfl my_X12_takes mv_X12_takes tw_6_200 ⟨Nat.le_of_ble_eq_true rfl, Nat.le_of_ble_eq_true rfl⟩ ⟨Nat.zero_le _, Nat.zero_le _⟩ rfl hl.1 rfl rfl (Nat.le_of_ble_eq_true rfl) dX12_readLine_68 (fun H locs hw => ?_)
          obtain ⟨h19, e, hf⟩ := ob hf
          refine q_stI e B hw dX12_readLine_71 (fun H locs hw => ?_)
          refine lv_goto (tgt := 112) hx hb dX12_readLine_72 (by decide) ?_
          obtain rfl := so hf
          exact q_vret B hw hz hc0 hr hlk dX12_readLine_112
      · have hf := (if_neg c7).symm.trans hf
        refine lv_aload_n hx hb dX12_readLine_32 rfl (lv_at hl 0 rfl) ?_
        obtain ⟨a20, e, hf⟩ := ob hf
        refine q_getR e B hw fd_12_4.1 fd_12_4.2.1 fd_12_4.2.2.1 fd_12_4.2.2.2.1 fd_12_4.2.2.2.2 rfl tw_6_47 dX12_readLine_33 ?_
        refine lv_bipush (v := 17) hx hb dX12_readLine_36 (by decide) ?_
        refine lv_aload_n hx hb dX12_readLine_38 rfl (lv_at hl 0 rfl) ?_
        refine lv_iconst (v := 0) hx hb dX12_readLine_39 (by decide) ?_
        refine lv_sipush (v := 999) hx hb dX12_readLine_40 (by decide) ?_
        obtain ⟨⟨x21, h22⟩, e, hf⟩ := ob hf
        refine q_callV (As := [.int 0, .int 999]) (rest := [.int 17, .ref a20]) (st1 := [.int x21, .int 17, .ref a20]) (c_X12_takes G e) B hw hz hc0 (k_X12_takes e) (by decide) (ci := 12) rfl rfl my_X12_takes mv_X12_takes tw_6_200 ⟨Nat.le_of_ble_eq_true rfl, Nat.le_of_ble_eq_true rfl⟩ ⟨Nat.zero_le _, Nat.zero_le _⟩ rfl hl.1 rfl rfl (Nat.le_of_ble_eq_true rfl) dX12_readLine_43 (fun H locs hw => ?_)
        obtain ⟨h23, e, hf⟩ := ob hf
        refine q_stI e B hw dX12_readLine_46 (fun H locs hw => ?_)
        refine lv_goto (tgt := 112) hx hb dX12_readLine_47 (by decide) ?_
        obtain rfl := so hf
        exact q_vret B hw hz hc0 hr hlk dX12_readLine_112
    · have hf := (if_neg c4).symm.trans hf
      refine lv_aload_n hx hb dX12_readLine_16 rfl (lv_at hl 0 rfl) ?_
      obtain ⟨h24, e, hf⟩ := ob hf
      refine q_callV (As := []) (rest := []) (st1 := []) (c_X12_readPerson G e) B hw hz hc0 (k_X12_readPerson e) (by decide) (ci := 12) rfl rfl my_X12_readPerson mv_X12_readPerson tw_6_212 ⟨Nat.le_of_ble_eq_true rfl, Nat.le_of_ble_eq_true rfl⟩ ⟨Nat.zero_le _, Nat.zero_le _⟩ rfl hl.1 rfl rfl (Nat.le_of_ble_eq_true rfl) dX12_readLine_17 (fun H locs hw => ?_)
      refine lv_goto (tgt := 112) hx hb dX12_readLine_20 (by decide) ?_
      obtain rfl := so hf
      exact q_vret B hw hz hc0 hr hlk dX12_readLine_112
  · have hf := (if_neg c2).symm.trans hf
    obtain rfl := so hf
    exact q_vret B hw hz hc0 hr hlk dX12_readLine_7
/-! SecondLifeModel.ends()V -/
def f_X12_ends_14 (n : Nat) (z : Sh) (h : Hp) (v0 : Nat) : Option (Hp) :=
  (gR z h 12 v0 4).bind fun a1 =>
  (ldI z h a1 0).bind fun x2 =>
  (stI z h a1 0 (x2 + 1)).bind fun h3 =>
  some h3
def f_X12_ends (n : Nat) (z : Sh) (h : Hp) (v0 : Nat) : Option (Hp) :=
  if z.K v0 = 12 then
    (f_X12_eats n z h v0 30).bind fun (x1, h2) =>
    if x1 = 0 then
      (f_X12_fails z h2 v0 2).bind fun h4 =>
      f_X12_ends_14 n z h4 v0
    else
      f_X12_ends_14 n z h2 v0
  else none
theorem k_X12_ends {n : Nat} {z : Sh} {h : Hp} {v0 : Nat} {w : Hp} (hf : f_X12_ends n z h v0 = some w) : z.K v0 = 12 := by
  unfold f_X12_ends at hf
  exact (if_some hf).1
set_option maxHeartbeats 4000000 in
theorem w_X12_ends_14 {p : Program} {l : Launch} {e : Env} {s : State} {m : MethodId} {args : Array Value} {below : List Frame} {meth : Method} {c : Code} {s0 : State} {E : Ev} {z : Sh} {n : Nat} {h' : Hp} (G : Gl s0 E) (B : Bd p s0 s E m c cX12_ends 1 RX12) (hz : s0.heap.size ≤ z.sz) (hc0 : s.heap.size + 0 = z.sz) (hr : meth.sig.returnType = none) (hlk : meth.locks = false) : ∀ (h : Hp) (v0 : Nat) (H : Heap) (locs : List Loc) (ls : Array Slot), Pw s0 s E z h H locs → lv_has ls 1 [(0, .ref v0)] → f_X12_ends_14 n z h v0 = some h' → W p l e (rmO 7 150) s m args below meth c H locs 0 0 (Zt below s0 E z h' (none) args s 0 0) (F0 m 14 ls []) := by
  have hx := B.1
  have hb := B.2.1
  intro h v0 H locs ls hw hl hf
  unfold f_X12_ends_14 at hf
  refine lv_aload_n hx hb dX12_ends_14 rfl (lv_at hl 0 rfl) ?_
  obtain ⟨a1, e, hf⟩ := ob hf
  refine q_getR e B hw fd_12_4.1 fd_12_4.2.1 fd_12_4.2.2.1 fd_12_4.2.2.2.1 fd_12_4.2.2.2.2 rfl tw_6_47 dX12_ends_15 ?_
  refine lv_iconst (v := 0) hx hb dX12_ends_18 (by decide) ?_
  refine lv_dup2_11 hx hb dX12_ends_19 rfl rfl ?_
  obtain ⟨x2, e, hf⟩ := ob hf
  refine q_ldI e B hw dX12_ends_20 ?_
  refine lv_iconst (v := 1) hx hb dX12_ends_21 (by decide) ?_
  refine lv_iadd hx hb dX12_ends_22 ?_
  obtain ⟨h3, e, hf⟩ := ob hf
  refine q_stI e B hw dX12_ends_23 (fun H locs hw => ?_)
  obtain rfl := so hf
  exact q_vret B hw hz hc0 hr hlk dX12_ends_24
set_option maxHeartbeats 4000000 in
theorem c_X12_ends {l : Launch} {s0 : State} {E : Ev} (G : Gl s0 E) {n : Nat} {z : Sh} {h : Hp} {v0 : Nat} {h' : Hp} (hf : f_X12_ends n z h v0 = some h') : Ct l s0 E yX12_ends cX12_ends 1 none 7 150 [.ref v0] z h h' (none) := by
  refine Ct.of G (by decide) (Nat.le_of_ble_eq_true rfl) ?_
  intro p e s m below meth c ls B hw hz hc0 hr hlk hl
  have B : Bd p s0 s E m c cX12_ends 1 RX12 := B
  have hx := B.1
  have hb := B.2.1
  have hl : lv_has ls 1 [(0, .ref v0)] := hl
  unfold f_X12_ends at hf
  obtain ⟨_, hf⟩ := if_some hf
  refine lv_aload_n hx hb dX12_ends_0 rfl (lv_at hl 0 rfl) ?_
  refine lv_bipush (v := 30) hx hb dX12_ends_1 (by decide) ?_
  obtain ⟨⟨x1, h2⟩, e, hf⟩ := ob hf
  refine q_callV (As := [.int 30]) (rest := []) (st1 := [.int x1]) (c_X12_eats G e) B hw hz hc0 (k_X12_eats e) (by decide) (ci := 12) rfl rfl my_X12_eats mv_X12_eats tw_6_188 ⟨Nat.le_of_ble_eq_true rfl, Nat.le_of_ble_eq_true rfl⟩ ⟨Nat.zero_le _, Nat.zero_le _⟩ rfl hl.1 rfl rfl (Nat.le_of_ble_eq_true rfl) dX12_ends_3 (fun H locs hw => ?_)
  refine lv_if_ne (tgt := 14) hx hb dX12_ends_6 (by decide) (fun c3 => ?_) (fun c3 => ?_)
  · have hf := (if_neg c3).symm.trans hf
    exact w_X12_ends_14 G B hz hc0 hr hlk  h2 v0 _ _ _ hw (lv_sub hl [0] rfl) hf
  · have hf := (if_pos c3).symm.trans hf
    refine lv_aload_n hx hb dX12_ends_9 rfl (lv_at hl 0 rfl) ?_
    refine lv_iconst (v := 2) hx hb dX12_ends_10 (by decide) ?_
    obtain ⟨h4, e, hf⟩ := ob hf
    refine q_callV (As := [.int 2]) (rest := []) (st1 := []) (c_X12_fails G e) B hw hz hc0 (k_X12_fails e) (by decide) (ci := 12) rfl rfl my_X12_fails mv_X12_fails tw_6_196 ⟨Nat.le_of_ble_eq_true rfl, Nat.le_of_ble_eq_true rfl⟩ ⟨Nat.zero_le _, Nat.zero_le _⟩ rfl hl.1 rfl rfl (Nat.le_of_ble_eq_true rfl) dX12_ends_11 (fun H locs hw => ?_)
    exact w_X12_ends_14 G B hz hc0 hr hlk  h4 v0 _ _ _ hw (lv_sub hl [0] rfl) hf
