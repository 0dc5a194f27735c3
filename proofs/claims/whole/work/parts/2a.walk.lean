/-! SecondLife.within(III)I -/
def f_X11_within (z : Sh) (h : Hp) (v0 : Int32) (v1 : Int32) (v2 : Int32) : Option (Int32) :=
  if v1 ≤ v0 then
    if v0 ≤ v2 then
      some v0
    else
      some v2
  else
    some v1
set_option maxHeartbeats 4000000 in
theorem c_X11_within {l : Launch} {s0 : State} {E : Ev} (G : Gl s0 E) {z : Sh} {h : Hp} {v0 : Int32} {v1 : Int32} {v2 : Int32} {r : Int32} (hf : f_X11_within z h v0 v1 v2 = some r) : Ct l s0 E yX11_within cX11_within 3 (some .int) 0 0 [.int v0, .int v1, .int v2] z h h (some (.int r)) := by
  refine Ct.of G (by decide) (Nat.le_of_ble_eq_true rfl) ?_
  intro p e s m below meth c ls B hw hz hc0 hr hlk hl
  have B : Bd p s0 s E m c cX11_within 3 RX11 := B
  have hx := B.1
  have hb := B.2.1
  have hl : lv_has ls 3 [(0, .int v0), (1, .int v1), (2, .int v2)] := hl
  unfold f_X11_within at hf
  refine lv_iload_n hx hb dX11_within_0 rfl (lv_at hl 0 rfl) ?_
  refine lv_iload_n hx hb dX11_within_1 rfl (lv_at hl 1 rfl) ?_
  refine lv_icmp_ge (tgt := 9) hx hb dX11_within_2 (by decide) (fun c1 => ?_) (fun c1 => ?_)
  · have hf := (if_pos c1).symm.trans hf
    refine lv_iload_n hx hb dX11_within_9 rfl (lv_at hl 0 rfl) ?_
    refine lv_iload_n hx hb dX11_within_10 rfl (lv_at hl 2 rfl) ?_
    refine lv_icmp_le (tgt := 18) hx hb dX11_within_11 (by decide) (fun c2 => ?_) (fun c2 => ?_)
    · have hf := (if_pos c2).symm.trans hf
      refine lv_iload_n hx hb dX11_within_18 rfl (lv_at hl 0 rfl) ?_
      cases hf
      exact q_iret B hw hz hc0 hr hlk dX11_within_19
    · have hf := (if_neg c2).symm.trans hf
      refine lv_iload_n hx hb dX11_within_14 rfl (lv_at hl 2 rfl) ?_
      refine lv_goto (tgt := 19) hx hb dX11_within_15 (by decide) ?_
      cases hf
      exact q_iret B hw hz hc0 hr hlk dX11_within_19
  · have hf := (if_neg c1).symm.trans hf
    refine lv_iload_n hx hb dX11_within_5 rfl (lv_at hl 1 rfl) ?_
    refine lv_goto (tgt := 19) hx hb dX11_within_6 (by decide) ?_
    cases hf
    exact q_iret B hw hz hc0 hr hlk dX11_within_19
/-! SecondLife$People.has(I)Z -/
def f_X5_has (z : Sh) (h : Hp) (v0 : Nat) (v1 : Int32) : Option (Int32) :=
  if z.K v0 = 5 then
    if v1 < 0 then
      some 0
    else
      (gI z h 5 v0 1).bind fun x2 =>
      if x2 ≤ v1 then
        some 0
      else
        some 1
  else none
theorem k_X5_has {z : Sh} {h : Hp} {v0 : Nat} {v1 : Int32} {w : Int32} (hf : f_X5_has z h v0 v1 = some w) : z.K v0 = 5 := by
  unfold f_X5_has at hf
  exact (if_some hf).1
set_option maxHeartbeats 4000000 in
theorem c_X5_has {l : Launch} {s0 : State} {E : Ev} (G : Gl s0 E) {z : Sh} {h : Hp} {v0 : Nat} {v1 : Int32} {r : Int32} (hf : f_X5_has z h v0 v1 = some r) : Ct l s0 E yX5_has cX5_has 2 (some .boolean) 0 0 [.ref v0, .int v1] z h h (some (.int r)) := by
  refine Ct.of G (by decide) (Nat.le_of_ble_eq_true rfl) ?_
  intro p e s m below meth c ls B hw hz hc0 hr hlk hl
  have B : Bd p s0 s E m c cX5_has 2 RX5 := B
  have hx := B.1
  have hb := B.2.1
  have hl : lv_has ls 2 [(0, .ref v0), (1, .int v1)] := hl
  unfold f_X5_has at hf
  obtain ⟨_, hf⟩ := if_some hf
  refine lv_iload_n hx hb dX5_has_0 rfl (lv_at hl 1 rfl) ?_
  refine lv_if_lt (tgt := 16) hx hb dX5_has_1 (by decide) (fun c1 => ?_) (fun c1 => ?_)
  · have hf := (if_pos c1).symm.trans hf
    refine lv_iconst (v := 0) hx hb dX5_has_16 (by decide) ?_
    cases hf
    exact q_zret (Or.inl rfl) B hw hz hc0 hr hlk dX5_has_17
  · have hf := (if_neg c1).symm.trans hf
    refine lv_iload_n hx hb dX5_has_4 rfl (lv_at hl 1 rfl) ?_
    refine lv_aload_n hx hb dX5_has_5 rfl (lv_at hl 0 rfl) ?_
    obtain ⟨x2, e, hf⟩ := ob hf
    refine q_getI e B hw fd_5_1.1 fd_5_1.2.1 fd_5_1.2.2.1 fd_5_1.2.2.2.1 fd_5_1.2.2.2.2 rfl tw_1_151 dX5_has_6 ?_
    refine lv_icmp_ge (tgt := 16) hx hb dX5_has_9 (by decide) (fun c3 => ?_) (fun c3 => ?_)
    · have hf := (if_pos c3).symm.trans hf
      refine lv_iconst (v := 0) hx hb dX5_has_16 (by decide) ?_
      cases hf
      exact q_zret (Or.inl rfl) B hw hz hc0 hr hlk dX5_has_17
    · have hf := (if_neg c3).symm.trans hf
      refine lv_iconst (v := 1) hx hb dX5_has_12 (by decide) ?_
      refine lv_goto (tgt := 17) hx hb dX5_has_13 (by decide) ?_
      cases hf
      exact q_zret (Or.inr rfl) B hw hz hc0 hr hlk dX5_has_17
/-! SecondLife$People.part(II)I -/
def f_X5_part (z : Sh) (h : Hp) (v0 : Nat) (v1 : Int32) (v2 : Int32) : Option (Int32) :=
  if z.K v0 = 5 then
    (some ((v1 * 9) + v2)).bind fun x1 =>
    if x1 < 0 then
      some (0 : Int32)
    else
      (gR z h 5 v0 0).bind fun a3 =>
      (aL z a3).bind fun x4 =>
      if x4 ≤ x1 then
        some (0 : Int32)
      else
        (gR z h 5 v0 0).bind fun a6 =>
        (ldI z h a6 x1).bind fun x7 =>
        some x7
  else none
theorem k_X5_part {z : Sh} {h : Hp} {v0 : Nat} {v1 : Int32} {v2 : Int32} {w : Int32} (hf : f_X5_part z h v0 v1 v2 = some w) : z.K v0 = 5 := by
  unfold f_X5_part at hf
  exact (if_some hf).1
set_option maxHeartbeats 4000000 in
theorem c_X5_part {l : Launch} {s0 : State} {E : Ev} (G : Gl s0 E) {z : Sh} {h : Hp} {v0 : Nat} {v1 : Int32} {v2 : Int32} {r : Int32} (hf : f_X5_part z h v0 v1 v2 = some r) : Ct l s0 E yX5_part cX5_part 4 (some .int) 0 0 [.ref v0, .int v1, .int v2] z h h (some (.int r)) := by
  refine Ct.of G (by decide) (Nat.le_of_ble_eq_true rfl) ?_
  intro p e s m below meth c ls B hw hz hc0 hr hlk hl
  have B : Bd p s0 s E m c cX5_part 4 RX5 := B
  have hx := B.1
  have hb := B.2.1
  have hl : lv_has ls 4 [(0, .ref v0), (1, .int v1), (2, .int v2)] := hl
  unfold f_X5_part at hf
  obtain ⟨_, hf⟩ := if_some hf
  refine lv_iload_n hx hb dX5_part_0 rfl (lv_at hl 1 rfl) ?_
  refine lv_bipush (v := 9) hx hb dX5_part_1 (by decide) ?_
  refine lv_imul hx hb dX5_part_3 ?_
  refine lv_iload_n hx hb dX5_part_4 rfl (lv_at hl 2 rfl) ?_
  refine lv_iadd hx hb dX5_part_5 ?_
  obtain ⟨x1, e, hf⟩ := ob hf
  refine q_nmI e ?_
  refine lv_istore_n (lv' := [(3, .int x1), (0, .ref v0), (1, .int v1), (2, .int v2)]) hx hb dX5_part_6 rfl hl (by decide) rfl (fun ls hl => ?_)
  refine lv_iload_n hx hb dX5_part_7 rfl (lv_at hl 0 rfl) ?_
  refine lv_if_lt (tgt := 29) hx hb dX5_part_8 (by decide) (fun c2 => ?_) (fun c2 => ?_)
  · have hf := (if_pos c2).symm.trans hf
    refine lv_iconst (v := 0) hx hb dX5_part_29 (by decide) ?_
    cases hf
    exact q_iret B hw hz hc0 hr hlk dX5_part_30
  · have hf := (if_neg c2).symm.trans hf
    refine lv_iload_n hx hb dX5_part_11 rfl (lv_at hl 0 rfl) ?_
    refine lv_aload_n hx hb dX5_part_12 rfl (lv_at hl 1 rfl) ?_
    obtain ⟨a3, e, hf⟩ := ob hf
    refine q_getR e B hw fd_5_0.1 fd_5_0.2.1 fd_5_0.2.2.1 fd_5_0.2.2.2.1 fd_5_0.2.2.2.2 rfl tw_1_150 dX5_part_13 ?_
    obtain ⟨x4, e, hf⟩ := ob hf
    refine q_len e B hw dX5_part_16 ?_
    refine lv_icmp_ge (tgt := 29) hx hb dX5_part_17 (by decide) (fun c5 => ?_) (fun c5 => ?_)
    · have hf := (if_pos c5).symm.trans hf
      refine lv_iconst (v := 0) hx hb dX5_part_29 (by decide) ?_
      cases hf
      exact q_iret B hw hz hc0 hr hlk dX5_part_30
    · have hf := (if_neg c5).symm.trans hf
      refine lv_aload_n hx hb dX5_part_20 rfl (lv_at hl 1 rfl) ?_
      obtain ⟨a6, e, hf⟩ := ob hf
      refine q_getR e B hw fd_5_0.1 fd_5_0.2.1 fd_5_0.2.2.1 fd_5_0.2.2.2.1 fd_5_0.2.2.2.2 rfl tw_1_150 dX5_part_21 ?_
      refine lv_iload_n hx hb dX5_part_24 rfl (lv_at hl 0 rfl) ?_
      obtain ⟨x7, e, hf⟩ := ob hf
      refine q_ldI e B hw dX5_part_25 ?_
      refine lv_goto (tgt := 30) hx hb dX5_part_26 (by decide) ?_
      cases hf
      exact q_iret B hw hz hc0 hr hlk dX5_part_30
/-! SecondLife$People.put(III)V -/
def f_X5_put (z : Sh) (h : Hp) (v0 : Nat) (v1 : Int32) (v2 : Int32) (v3 : Int32) : Option (Hp) :=
  if z.K v0 = 5 then
    (some ((v1 * 9) + v2)).bind fun x1 =>
    if x1 < 0 then
      some h
    else
      (gR z h 5 v0 0).bind fun a3 =>
      (aL z a3).bind fun x4 =>
      if x4 ≤ x1 then
        some h
      else
        (gR z h 5 v0 0).bind fun a6 =>
        (stI z h a6 x1 v3).bind fun h7 =>
        some h7
  else none
theorem k_X5_put {z : Sh} {h : Hp} {v0 : Nat} {v1 : Int32} {v2 : Int32} {v3 : Int32} {w : Hp} (hf : f_X5_put z h v0 v1 v2 v3 = some w) : z.K v0 = 5 := by
  unfold f_X5_put at hf
  exact (if_some hf).1
set_option maxHeartbeats 4000000 in
theorem c_X5_put {l : Launch} {s0 : State} {E : Ev} (G : Gl s0 E) {z : Sh} {h : Hp} {v0 : Nat} {v1 : Int32} {v2 : Int32} {v3 : Int32} {h' : Hp} (hf : f_X5_put z h v0 v1 v2 v3 = some h') : Ct l s0 E yX5_put cX5_put 5 none 0 0 [.ref v0, .int v1, .int v2, .int v3] z h h' (none) := by
  refine Ct.of G (by decide) (Nat.le_of_ble_eq_true rfl) ?_
  intro p e s m below meth c ls B hw hz hc0 hr hlk hl
  have B : Bd p s0 s E m c cX5_put 5 RX5 := B
  have hx := B.1
  have hb := B.2.1
  have hl : lv_has ls 5 [(0, .ref v0), (1, .int v1), (2, .int v2), (3, .int v3)] := hl
  unfold f_X5_put at hf
  obtain ⟨_, hf⟩ := if_some hf
  refine lv_iload_n hx hb dX5_put_0 rfl (lv_at hl 1 rfl) ?_
  refine lv_bipush (v := 9) hx hb dX5_put_1 (by decide) ?_
  refine lv_imul hx hb dX5_put_3 ?_
  refine lv_iload_n hx hb dX5_put_4 rfl (lv_at hl 2 rfl) ?_
  refine lv_iadd hx hb dX5_put_5 ?_
  obtain ⟨x1, e, hf⟩ := ob hf
  refine q_nmI e ?_
  refine lv_istore (lv' := [(4, .int x1), (0, .ref v0), (1, .int v1), (2, .int v2), (3, .int v3)]) hx hb dX5_put_6 hl (by decide) rfl (fun ls hl => ?_)
  refine lv_iload hx hb dX5_put_8 (lv_at hl 0 rfl) ?_
  refine lv_if_lt (tgt := 31) hx hb dX5_put_10 (by decide) (fun c2 => ?_) (fun c2 => ?_)
  · have hf := (if_pos c2).symm.trans hf
    cases hf
    exact q_vret B hw hz hc0 hr hlk dX5_put_31
  · have hf := (if_neg c2).symm.trans hf
    refine lv_iload hx hb dX5_put_13 (lv_at hl 0 rfl) ?_
    refine lv_aload_n hx hb dX5_put_15 rfl (lv_at hl 1 rfl) ?_
    obtain ⟨a3, e, hf⟩ := ob hf
    refine q_getR e B hw fd_5_0.1 fd_5_0.2.1 fd_5_0.2.2.1 fd_5_0.2.2.2.1 fd_5_0.2.2.2.2 rfl tw_1_150 dX5_put_16 ?_
    obtain ⟨x4, e, hf⟩ := ob hf
    refine q_len e B hw dX5_put_19 ?_
    refine lv_icmp_ge (tgt := 31) hx hb dX5_put_20 (by decide) (fun c5 => ?_) (fun c5 => ?_)
    · have hf := (if_pos c5).symm.trans hf
      cases hf
      exact q_vret B hw hz hc0 hr hlk dX5_put_31
    · have hf := (if_neg c5).symm.trans hf
      refine lv_aload_n hx hb dX5_put_23 rfl (lv_at hl 1 rfl) ?_
      obtain ⟨a6, e, hf⟩ := ob hf
      refine q_getR e B hw fd_5_0.1 fd_5_0.2.1 fd_5_0.2.2.1 fd_5_0.2.2.2.1 fd_5_0.2.2.2.2 rfl tw_1_150 dX5_put_24 ?_
      refine lv_iload hx hb dX5_put_27 (lv_at hl 0 rfl) ?_
      refine lv_iload_n hx hb dX5_put_29 rfl (lv_at hl 4 rfl) ?_
      obtain ⟨h7, e, hf⟩ := ob hf
      refine q_stI e B hw dX5_put_30 (fun H locs hw => ?_)
      cases hf
      exact q_vret B hw hz hc0 hr hlk dX5_put_31
/-! SecondLife$People.wealth()I -/
def f_X5_wealth_4 (n : Nat) (z : Sh) (h : Hp) : Nat → Nat → Int32 → Int32 → Option (Int32)
  | 0, _, _, _ => none
  | i + 1, v0, v1, v2 =>
    (gI z h 5 v0 1).bind fun x1 =>
    if x1 ≤ v2 then
      some v1
    else
      (f_X5_part z h v0 v2 2).bind fun x3 =>
      (some (v1 + x3)).bind fun x4 =>
      (some (v2 + 1)).bind fun x5 =>
      f_X5_wealth_4 n z h i v0 x4 x5
def f_X5_wealth (n : Nat) (z : Sh) (h : Hp) (v0 : Nat) : Option (Int32) :=
  if z.K v0 = 5 then
    f_X5_wealth_4 n z h n v0 0 0
  else none
theorem k_X5_wealth {n : Nat} {z : Sh} {h : Hp} {v0 : Nat} {w : Int32} (hf : f_X5_wealth n z h v0 = some w) : z.K v0 = 5 := by
  unfold f_X5_wealth at hf
  exact (if_some hf).1
set_option maxHeartbeats 4000000 in
theorem w_X5_wealth_4 {p : Program} {l : Launch} {e : Env} {s : State} {m : MethodId} {args : Array Value} {below : List Frame} {meth : Method} {c : Code} {s0 : State} {E : Ev} {z : Sh} {h : Hp} {n : Nat} {r : Int32} (G : Gl s0 E) (B : Bd p s0 s E m c cX5_wealth 3 RX5) (hz : s0.heap.size ≤ z.sz) (hc0 : s.heap.size + 0 = z.sz) (hr : meth.sig.returnType = (some .int)) (hlk : meth.locks = false) : ∀ (i : Nat), ∀ (v0 : Nat) (v1 : Int32) (v2 : Int32) (H : Heap) (locs : List Loc) (ls : Array Slot), Pw s0 s E z h H locs → lv_has ls 3 [(0, .ref v0), (1, .int v1), (2, .int v2)] → f_X5_wealth_4 n z h i v0 v1 v2 = some r → W p l e (rmO 1 23) s m args below meth c H locs 0 0 (Zt below s0 E z h (some (.int r)) args s 0 0) (F0 m 4 ls []) := by
  have hx := B.1
  have hb := B.2.1
  intro i
  induction i with
  | zero =>
    intro v0 v1 v2 H locs ls hw hl hf
    have hf := (f_X5_wealth_4.eq_1 ..).symm.trans hf
    cases hf
  | succ i ih =>
    intro v0 v1 v2 H locs ls hw hl hf
    have hf := (f_X5_wealth_4.eq_2 ..).symm.trans hf
    refine lv_iload_n hx hb dX5_wealth_4 rfl (lv_at hl 2 rfl) ?_
    refine lv_aload_n hx hb dX5_wealth_5 rfl (lv_at hl 0 rfl) ?_
    obtain ⟨x1, e, hf⟩ := ob hf
    refine q_getI e B hw fd_5_1.1 fd_5_1.2.1 fd_5_1.2.2.1 fd_5_1.2.2.2.1 fd_5_1.2.2.2.2 rfl tw_1_151 dX5_wealth_6 ?_
    refine lv_icmp_ge (tgt := 27) hx hb dX5_wealth_9 (by decide) (fun c2 => ?_) (fun c2 => ?_)
    · have hf := (if_pos c2).symm.trans hf
      refine lv_iload_n hx hb dX5_wealth_27 rfl (lv_at hl 1 rfl) ?_
      cases hf
      exact q_iret B hw hz hc0 hr hlk dX5_wealth_28
    · have hf := (if_neg c2).symm.trans hf
      refine lv_iload_n hx hb dX5_wealth_12 rfl (lv_at hl 1 rfl) ?_
      refine lv_aload_n hx hb dX5_wealth_13 rfl (lv_at hl 0 rfl) ?_
      refine lv_iload_n hx hb dX5_wealth_14 rfl (lv_at hl 2 rfl) ?_
      refine lv_iconst (v := 2) hx hb dX5_wealth_15 (by decide) ?_
      obtain ⟨x3, e, hf⟩ := ob hf
      refine q_callV (As := [.int v2, .int 2]) (rest := [.int v1]) (st1 := [.int x3, .int v1]) (c_X5_part G e) B hw hz hc0 (k_X5_part e) (by decide) (ci := 5) rfl rfl my_X5_part mv_X5_part tw_4_127 ⟨by decide, by decide⟩ ⟨Nat.zero_le _, Nat.zero_le _⟩ rfl hl.1 rfl rfl (Nat.le_of_ble_eq_true rfl) dX5_wealth_16 (fun H locs hw => ?_)
      refine lv_iadd hx hb dX5_wealth_19 ?_
      obtain ⟨x4, e, hf⟩ := ob hf
      refine q_nmI e ?_
      refine lv_istore_n (lv' := [(1, .int x4), (0, .ref v0), (2, .int v2)]) hx hb dX5_wealth_20 rfl hl (by decide) rfl (fun ls hl => ?_)
      obtain ⟨x5, e, hf⟩ := ob hf
      refine lv_iinc (v := x5) (lv' := [(2, .int x5), (1, .int x4), (0, .ref v0)]) hx hb dX5_wealth_21 hl (k := 2) rfl (Option.some.inj e) (by decide) rfl (fun ls hl => ?_)
      refine lv_goto (tgt := 4) hx hb dX5_wealth_24 (by decide) ?_
      exact ih v0 x4 x5 _ _ _ hw (lv_sub hl [2, 1, 0] rfl) hf
set_option maxHeartbeats 4000000 in
theorem c_X5_wealth {l : Launch} {s0 : State} {E : Ev} (G : Gl s0 E) {n : Nat} {z : Sh} {h : Hp} {v0 : Nat} {r : Int32} (hf : f_X5_wealth n z h v0 = some r) : Ct l s0 E yX5_wealth cX5_wealth 3 (some .int) 1 23 [.ref v0] z h h (some (.int r)) := by
  refine Ct.of G (by decide) (Nat.le_of_ble_eq_true rfl) ?_
  intro p e s m below meth c ls B hw hz hc0 hr hlk hl
  have B : Bd p s0 s E m c cX5_wealth 3 RX5 := B
  have hx := B.1
  have hb := B.2.1
  have hl : lv_has ls 3 [(0, .ref v0)] := hl
  unfold f_X5_wealth at hf
  obtain ⟨_, hf⟩ := if_some hf
  refine lv_iconst (v := 0) hx hb dX5_wealth_0 (by decide) ?_
  refine lv_istore_n (lv' := [(1, .int 0), (0, .ref v0)]) hx hb dX5_wealth_1 rfl hl (by decide) rfl (fun ls hl => ?_)
  refine lv_iconst (v := 0) hx hb dX5_wealth_2 (by decide) ?_
  refine lv_istore_n (lv' := [(2, .int 0), (1, .int 0), (0, .ref v0)]) hx hb dX5_wealth_3 rfl hl (by decide) rfl (fun ls hl => ?_)
  exact w_X5_wealth_4 G B hz hc0 hr hlk  n v0 0 0 _ _ _ hw (lv_sub hl [2, 1, 0] rfl) hf
/-! SecondLife$People.everybody()I -/
def f_X5_everybody (z : Sh) (h : Hp) (v0 : Nat) : Option (Int32) :=
  if z.K v0 = 5 then
    (gI z h 5 v0 1).bind fun x1 =>
    some (((1 : Int32) <<< (x1 &&& 31)) - 1)
  else none
theorem k_X5_everybody {z : Sh} {h : Hp} {v0 : Nat} {w : Int32} (hf : f_X5_everybody z h v0 = some w) : z.K v0 = 5 := by
  unfold f_X5_everybody at hf
  exact (if_some hf).1
set_option maxHeartbeats 4000000 in
theorem c_X5_everybody {l : Launch} {s0 : State} {E : Ev} (G : Gl s0 E) {z : Sh} {h : Hp} {v0 : Nat} {r : Int32} (hf : f_X5_everybody z h v0 = some r) : Ct l s0 E yX5_everybody cX5_everybody 1 (some .int) 0 0 [.ref v0] z h h (some (.int r)) := by
  refine Ct.of G (by decide) (Nat.le_of_ble_eq_true rfl) ?_
  intro p e s m below meth c ls B hw hz hc0 hr hlk hl
  have B : Bd p s0 s E m c cX5_everybody 1 RX5 := B
  have hx := B.1
  have hb := B.2.1
  have hl : lv_has ls 1 [(0, .ref v0)] := hl
  unfold f_X5_everybody at hf
  obtain ⟨_, hf⟩ := if_some hf
  refine lv_iconst (v := 1) hx hb dX5_everybody_0 (by decide) ?_
  refine lv_aload_n hx hb dX5_everybody_1 rfl (lv_at hl 0 rfl) ?_
  obtain ⟨x1, e, hf⟩ := ob hf
  refine q_getI e B hw fd_5_1.1 fd_5_1.2.1 fd_5_1.2.2.1 fd_5_1.2.2.2.1 fd_5_1.2.2.2.2 rfl tw_1_151 dX5_everybody_2 ?_
  refine lv_ishl hx hb dX5_everybody_5 ?_
  refine lv_iconst (v := 1) hx hb dX5_everybody_6 (by decide) ?_
  refine lv_isub hx hb dX5_everybody_7 ?_
  cases hf
  exact q_iret B hw hz hc0 hr hlk dX5_everybody_8
/-! SecondLife$People.isSet(I)Z -/
def f_X5_isSet (z : Sh) (h : Hp) (v0 : Nat) (v1 : Int32) : Option (Int32) :=
  if z.K v0 = 5 then
    (f_X5_everybody z h v0).bind fun x1 =>
    if (v1 &&& (x1 ^^^ (-1))) = 0 then
      some 1
    else
      some 0
  else none
theorem k_X5_isSet {z : Sh} {h : Hp} {v0 : Nat} {v1 : Int32} {w : Int32} (hf : f_X5_isSet z h v0 v1 = some w) : z.K v0 = 5 := by
  unfold f_X5_isSet at hf
  exact (if_some hf).1
set_option maxHeartbeats 4000000 in
theorem c_X5_isSet {l : Launch} {s0 : State} {E : Ev} (G : Gl s0 E) {z : Sh} {h : Hp} {v0 : Nat} {v1 : Int32} {r : Int32} (hf : f_X5_isSet z h v0 v1 = some r) : Ct l s0 E yX5_isSet cX5_isSet 2 (some .boolean) 1 20 [.ref v0, .int v1] z h h (some (.int r)) := by
  refine Ct.of G (by decide) (Nat.le_of_ble_eq_true rfl) ?_
  intro p e s m below meth c ls B hw hz hc0 hr hlk hl
  have B : Bd p s0 s E m c cX5_isSet 2 RX5 := B
  have hx := B.1
  have hb := B.2.1
  have hl : lv_has ls 2 [(0, .ref v0), (1, .int v1)] := hl
  unfold f_X5_isSet at hf
  obtain ⟨_, hf⟩ := if_some hf
  refine lv_iload_n hx hb dX5_isSet_0 rfl (lv_at hl 1 rfl) ?_
  refine lv_aload_n hx hb dX5_isSet_1 rfl (lv_at hl 0 rfl) ?_
  obtain ⟨x1, e, hf⟩ := ob hf
  refine q_callV (As := []) (rest := [.int v1]) (st1 := [.int x1, .int v1]) (c_X5_everybody G e) B hw hz hc0 (k_X5_everybody e) (by decide) (ci := 5) rfl rfl my_X5_everybody mv_X5_everybody tw_5_181 ⟨by decide, by decide⟩ ⟨Nat.zero_le _, Nat.zero_le _⟩ rfl hl.1 rfl rfl (Nat.le_of_ble_eq_true rfl) dX5_isSet_2 (fun H locs hw => ?_)
  refine lv_iconst (v := (-1)) hx hb dX5_isSet_5 (by decide) ?_
  refine lv_ixor hx hb dX5_isSet_6 ?_
  refine lv_iand hx hb dX5_isSet_7 ?_
  refine lv_if_ne (tgt := 15) hx hb dX5_isSet_8 (by decide) (fun c2 => ?_) (fun c2 => ?_)
  · have hf := (if_neg c2).symm.trans hf
    refine lv_iconst (v := 0) hx hb dX5_isSet_15 (by decide) ?_
    cases hf
    exact q_zret (Or.inl rfl) B hw hz hc0 hr hlk dX5_isSet_16
  · have hf := (if_pos c2).symm.trans hf
    refine lv_iconst (v := 1) hx hb dX5_isSet_11 (by decide) ?_
    refine lv_goto (tgt := 16) hx hb dX5_isSet_12 (by decide) ?_
    cases hf
    exact q_zret (Or.inr rfl) B hw hz hc0 hr hlk dX5_isSet_16
/-! SecondLife$Ways.lifeOf(I)I -/
def f_X10_lifeOf (z : Sh) (h : Hp) (v0 : Int32) : Option (Int32) :=
  (dvI v0 175).bind fun x1 =>
  some x1
set_option maxHeartbeats 4000000 in
theorem c_X10_lifeOf {l : Launch} {s0 : State} {E : Ev} (G : Gl s0 E) {z : Sh} {h : Hp} {v0 : Int32} {r : Int32} (hf : f_X10_lifeOf z h v0 = some r) : Ct l s0 E yX10_lifeOf cX10_lifeOf 1 (some .int) 0 0 [.int v0] z h h (some (.int r)) := by
  refine Ct.of G (by decide) (Nat.le_of_ble_eq_true rfl) ?_
  intro p e s m below meth c ls B hw hz hc0 hr hlk hl
  have B : Bd p s0 s E m c cX10_lifeOf 1 RX10 := B
  have hx := B.1
  have hb := B.2.1
  have hl : lv_has ls 1 [(0, .int v0)] := hl
  unfold f_X10_lifeOf at hf
  refine lv_iload_n hx hb dX10_lifeOf_0 rfl (lv_at hl 0 rfl) ?_
  refine lv_sipush (v := 175) hx hb dX10_lifeOf_1 (by decide) ?_
  obtain ⟨x1, e, hf⟩ := ob hf
  refine q_idiv e hx hb dX10_lifeOf_4 ?_
  cases hf
  exact q_iret B hw hz hc0 hr hlk dX10_lifeOf_5
/-! SecondLife$Ways.yearOf(I)I -/
def f_X10_yearOf (z : Sh) (h : Hp) (v0 : Int32) : Option (Int32) :=
  (dvI v0 25).bind fun x1 =>
  (rmI x1 7).bind fun x2 =>
  some x2
set_option maxHeartbeats 4000000 in
theorem c_X10_yearOf {l : Launch} {s0 : State} {E : Ev} (G : Gl s0 E) {z : Sh} {h : Hp} {v0 : Int32} {r : Int32} (hf : f_X10_yearOf z h v0 = some r) : Ct l s0 E yX10_yearOf cX10_yearOf 1 (some .int) 0 0 [.int v0] z h h (some (.int r)) := by
  refine Ct.of G (by decide) (Nat.le_of_ble_eq_true rfl) ?_
  intro p e s m below meth c ls B hw hz hc0 hr hlk hl
  have B : Bd p s0 s E m c cX10_yearOf 1 RX10 := B
  have hx := B.1
  have hb := B.2.1
  have hl : lv_has ls 1 [(0, .int v0)] := hl
  unfold f_X10_yearOf at hf
  refine lv_iload_n hx hb dX10_yearOf_0 rfl (lv_at hl 0 rfl) ?_
  refine lv_bipush (v := 25) hx hb dX10_yearOf_1 (by decide) ?_
  obtain ⟨x1, e, hf⟩ := ob hf
  refine q_idiv e hx hb dX10_yearOf_3 ?_
  refine lv_bipush (v := 7) hx hb dX10_yearOf_4 (by decide) ?_
  obtain ⟨x2, e, hf⟩ := ob hf
  refine q_irem e hx hb dX10_yearOf_6 ?_
  cases hf
  exact q_iret B hw hz hc0 hr hlk dX10_yearOf_7
