/-! SecondLifeModel.laysBest(I)V -/
def f_X12_laysBest_203 (n : Nat) (g_X12_laysBest : Sh → Hp → Nat → Int32 → Option (Hp)) (z : Sh) (h : Hp) (v0 : Nat) (v1 : Int32) (v2 : Int32) (v3 : Int32) : Option (Hp) :=
  (gR z h 12 v0 21).bind fun a1 =>
  (stI z h a1 v1 v2).bind fun h2 =>
  (gR z h2 12 v0 22).bind fun a3 =>
  (stI z h2 a3 v1 v3).bind fun h4 =>
  some h4
def f_X12_laysBest_185 (n : Nat) (g_X12_laysBest : Sh → Hp → Nat → Int32 → Option (Hp)) (z : Sh) (h : Hp) (v0 : Nat) (v1 : Int32) (v4 : Int32) : Option (Hp) :=
  (gR z h 12 v0 21).bind fun a1 =>
  (ldI z h a1 v4).bind fun x2 =>
  (gR z h 12 v0 22).bind fun a3 =>
  (ldI z h a3 v4).bind fun x4 =>
  (some (x4 + 1)).bind fun x5 =>
  f_X12_laysBest_203 n g_X12_laysBest z h v0 v1 x2 x5
def f_X12_laysBest_125 (n : Nat) (g_X12_laysBest : Sh → Hp → Nat → Int32 → Option (Hp)) (z : Sh) (h : Hp) (v0 : Nat) (v1 : Int32) (v2 : Int32) (v3 : Int32) : Option (Hp) :=
  (f_X12_canDraw z h v0 v1).bind fun x1 =>
  if x1 = 0 then
    f_X12_laysBest_203 n g_X12_laysBest z h v0 v1 v2 v3
  else
    (gI z h 12 v0 25).bind fun x3 =>
    (f_X12_drawnTo n z h v0 x3 v1).bind fun (x4, h5) =>
    (ckK z v0 12).bind fun _ =>
    (g_X12_laysBest z h5 v0 x4).bind fun h6 =>
    (gR z h6 12 v0 21).bind fun a7 =>
    (ldI z h6 a7 x4).bind fun x8 =>
    if v2 < x8 then
      f_X12_laysBest_185 n g_X12_laysBest z h6 v0 v1 x4
    else
      (gR z h6 12 v0 21).bind fun a10 =>
      (ldI z h6 a10 x4).bind fun x11 =>
      if x11 = v2 then
        (gR z h6 12 v0 22).bind fun a13 =>
        (ldI z h6 a13 x4).bind fun x14 =>
        if v3 ≤ (x14 + 1) then
          f_X12_laysBest_203 n g_X12_laysBest z h6 v0 v1 v2 v3
        else
          f_X12_laysBest_185 n g_X12_laysBest z h6 v0 v1 x4
      else
        f_X12_laysBest_203 n g_X12_laysBest z h6 v0 v1 v2 v3
def f_X12_laysBest_119 (n : Nat) (g_X12_laysBest : Sh → Hp → Nat → Int32 → Option (Hp)) (z : Sh) (k24 : Hp → Nat → Int32 → Int32 → Int32 → Int32 → Option (Hp)) (h : Hp) (v0 : Nat) (v1 : Int32) (v2 : Int32) (v3 : Int32) (v4 : Int32) : Option (Hp) :=
  (some (v4 + 1)).bind fun x1 =>
  k24 h v0 v1 v2 v3 x1
def f_X12_laysBest_106 (n : Nat) (g_X12_laysBest : Sh → Hp → Nat → Int32 → Option (Hp)) (z : Sh) (k24 : Hp → Nat → Int32 → Int32 → Int32 → Int32 → Option (Hp)) (h : Hp) (v0 : Nat) (v1 : Int32) (v4 : Int32) (v5 : Int32) (v6 : Int32) : Option (Hp) :=
  (gR z h 12 v0 22).bind fun a1 =>
  (ldI z h a1 v5).bind fun x2 =>
  (some (x2 + 1)).bind fun x3 =>
  f_X12_laysBest_119 n g_X12_laysBest z k24 h v0 v1 v6 x3 v4
def f_X12_laysBest_24 (n : Nat) (g_X12_laysBest : Sh → Hp → Nat → Int32 → Option (Hp)) (z : Sh) : Nat → Hp → Nat → Int32 → Int32 → Int32 → Int32 → Option (Hp)
  | 0, _, _, _, _, _, _ => none
  | i + 1, h, v0, v1, v2, v3, v4 =>
    (gR z h 12 v0 1).bind fun a1 =>
    (ldI z h a1 2).bind fun x2 =>
    if x2 ≤ v4 then
      f_X12_laysBest_125 n g_X12_laysBest z h v0 v1 v2 v3
    else
      (f_X12_isOver z h v0 v1).bind fun x4 =>
      if x4 = 0 then
        (f_X12_livedTo z h v1 v4).bind fun x6 =>
        (ckK z v0 12).bind fun _ =>
        (g_X12_laysBest z h v0 x6).bind fun h7 =>
        (gI z h7 12 v0 25).bind fun x8 =>
        (f_X12_worthOf n z h7 v0 x8 v1 v4).bind fun (x9, h10) =>
        (gR z h10 12 v0 21).bind fun a11 =>
        (ldI z h10 a11 x6).bind fun x12 =>
        (some (x9 + x12)).bind fun x13 =>
        if x13 < v2 then
          f_X12_laysBest_119 n g_X12_laysBest z (f_X12_laysBest_24 n g_X12_laysBest z i) h10 v0 v1 v2 v3 v4
        else
          if x13 = v2 then
            (gR z h10 12 v0 22).bind fun a16 =>
            (ldI z h10 a16 x6).bind fun x17 =>
            if (x17 + 1) < v3 then
              f_X12_laysBest_106 n g_X12_laysBest z (f_X12_laysBest_24 n g_X12_laysBest z i) h10 v0 v1 v4 x6 x13
            else
              f_X12_laysBest_119 n g_X12_laysBest z (f_X12_laysBest_24 n g_X12_laysBest z i) h10 v0 v1 v2 v3 v4
          else
            f_X12_laysBest_106 n g_X12_laysBest z (f_X12_laysBest_24 n g_X12_laysBest z i) h10 v0 v1 v4 x6 x13
      else
        f_X12_laysBest_125 n g_X12_laysBest z h v0 v1 v2 v3
def F_X12_laysBest (n : Nat) (g_X12_laysBest : Sh → Hp → Nat → Int32 → Option (Hp)) (z : Sh) (h : Hp) (v0 : Nat) (v1 : Int32) : Option (Hp) :=
  if z.K v0 = 12 then
    (gR z h 12 v0 24).bind fun a1 =>
    (ldZ z h a1 v1).bind fun x2 =>
    if x2 = 0 then
      (gR z h 12 v0 24).bind fun a4 =>
      (stZ z h a4 v1 1).bind fun h5 =>
      f_X12_laysBest_24 n g_X12_laysBest z n h5 v0 v1 0 0 0
    else
      some h
  else none
def rc_X12_laysBest (n : Nat) : Nat → Sh → Hp → Nat → Int32 → Option (Hp)
  | 0 => (fun _ _ _ _ => none)
  | i + 1 => (F_X12_laysBest n (rc_X12_laysBest n i))
def f_X12_laysBest (n : Nat) (z : Sh) (h : Hp) (v0 : Nat) (v1 : Int32) : Option (Hp) := (rc_X12_laysBest n 20) z h v0 v1
theorem k_X12_laysBest {n : Nat} {z : Sh} {h : Hp} {v0 : Nat} {v1 : Int32} {w : Hp} (hf : f_X12_laysBest n z h v0 v1 = some w) : z.K v0 = 12 := by
  have hf : F_X12_laysBest n (rc_X12_laysBest n 19) z h v0 v1 = some w := hf
  unfold F_X12_laysBest at hf
  exact (if_some hf).1
set_option maxHeartbeats 4000000 in
theorem w_X12_laysBest_203 {p : Program} {l : Launch} {e : Env} {s : State} {m : MethodId} {args : Array Value} {below : List Frame} {meth : Method} {c : Code} {s0 : State} {E : Ev} {z : Sh} {d : Nat} {g_X12_laysBest : Sh → Hp → Nat → Int32 → Option (Hp)} {n : Nat} {h' : Hp} (G : Gl s0 E) (B : Bd p s0 s E m c cX12_laysBest 7 RX12) (hz : s0.heap.size ≤ z.sz) (hc0 : s.heap.size + 0 = z.sz) (hr : meth.sig.returnType = none) (hlk : meth.locks = false) (H_X12_laysBest : ∀ {z : Sh} {h : Hp} {v0 : Nat} {v1 : Int32} {h' : Hp}, g_X12_laysBest z h v0 v1 = some h' → Ct l s0 E yX12_laysBest cX12_laysBest 7 none (5 + d) (94 + 60 * d) [.ref v0, .int v1] z h h' (none)) : ∀ (h : Hp) (v0 : Nat) (v1 : Int32) (v2 : Int32) (v3 : Int32) (H : Heap) (locs : List Loc) (ls : Array Slot), Pw s0 s E z h H locs → lv_has ls 7 [(0, .ref v0), (1, .int v1), (2, .int v2), (3, .int v3)] → f_X12_laysBest_203 n g_X12_laysBest z h v0 v1 v2 v3 = some h' → W p l e (rmO (5 + (d + 1)) (94 + 60 * (d + 1))) s m args below meth c H locs 0 0 (Zt below s0 E z h' (none) args s 0 0) (F0 m 203 ls []) := by
  have hx := B.1
  have hb := B.2.1
  intro h v0 v1 v2 v3 H locs ls hw hl hf
  unfold f_X12_laysBest_203 at hf
  refine lv_aload_n hx hb dX12_laysBest_203 rfl (lv_at hl 0 rfl) ?_
  obtain ⟨a1, e, hf⟩ := ob hf
  refine q_getR e B hw fd_12_21.1 fd_12_21.2.1 fd_12_21.2.2.1 fd_12_21.2.2.2.1 fd_12_21.2.2.2.2 rfl tw_6_64 dX12_laysBest_204 ?_
  refine lv_iload_n hx hb dX12_laysBest_207 rfl (lv_at hl 1 rfl) ?_
  refine lv_iload_n hx hb dX12_laysBest_208 rfl (lv_at hl 2 rfl) ?_
  obtain ⟨h2, e, hf⟩ := ob hf
  refine q_stI e B hw dX12_laysBest_209 (fun H locs hw => ?_)
  refine lv_aload_n hx hb dX12_laysBest_210 rfl (lv_at hl 0 rfl) ?_
  obtain ⟨a3, e, hf⟩ := ob hf
  refine q_getR e B hw fd_12_22.1 fd_12_22.2.1 fd_12_22.2.2.1 fd_12_22.2.2.2.1 fd_12_22.2.2.2.2 rfl tw_6_65 dX12_laysBest_211 ?_
  refine lv_iload_n hx hb dX12_laysBest_214 rfl (lv_at hl 1 rfl) ?_
  refine lv_iload_n hx hb dX12_laysBest_215 rfl (lv_at hl 3 rfl) ?_
  obtain ⟨h4, e, hf⟩ := ob hf
  refine q_stI e B hw dX12_laysBest_216 (fun H locs hw => ?_)
  obtain rfl := so hf
  exact q_vret B hw hz hc0 hr hlk dX12_laysBest_217
set_option maxHeartbeats 4000000 in
theorem w_X12_laysBest_185 {p : Program} {l : Launch} {e : Env} {s : State} {m : MethodId} {args : Array Value} {below : List Frame} {meth : Method} {c : Code} {s0 : State} {E : Ev} {z : Sh} {d : Nat} {g_X12_laysBest : Sh → Hp → Nat → Int32 → Option (Hp)} {n : Nat} {h' : Hp} (G : Gl s0 E) (B : Bd p s0 s E m c cX12_laysBest 7 RX12) (hz : s0.heap.size ≤ z.sz) (hc0 : s.heap.size + 0 = z.sz) (hr : meth.sig.returnType = none) (hlk : meth.locks = false) (H_X12_laysBest : ∀ {z : Sh} {h : Hp} {v0 : Nat} {v1 : Int32} {h' : Hp}, g_X12_laysBest z h v0 v1 = some h' → Ct l s0 E yX12_laysBest cX12_laysBest 7 none (5 + d) (94 + 60 * d) [.ref v0, .int v1] z h h' (none)) : ∀ (h : Hp) (v0 : Nat) (v1 : Int32) (v4 : Int32) (H : Heap) (locs : List Loc) (ls : Array Slot), Pw s0 s E z h H locs → lv_has ls 7 [(0, .ref v0), (1, .int v1), (4, .int v4)] → f_X12_laysBest_185 n g_X12_laysBest z h v0 v1 v4 = some h' → W p l e (rmO (5 + (d + 1)) (94 + 60 * (d + 1))) s m args below meth c H locs 0 0 (Zt below s0 E z h' (none) args s 0 0) (F0 m 185 ls []) := by
  have hx := B.1
  have hb := B.2.1
  intro h v0 v1 v4 H locs ls hw hl hf
  unfold f_X12_laysBest_185 at hf
  refine lv_aload_n hx hb dX12_laysBest_185 rfl (lv_at hl 0 rfl) ?_
  obtain ⟨a1, e, hf⟩ := ob hf
  refine q_getR e B hw fd_12_21.1 fd_12_21.2.1 fd_12_21.2.2.1 fd_12_21.2.2.2.1 fd_12_21.2.2.2.2 rfl tw_6_64 dX12_laysBest_186 ?_
  refine lv_iload hx hb dX12_laysBest_189 (lv_at hl 2 rfl) ?_
  obtain ⟨x2, e, hf⟩ := ob hf
  refine q_ldI e B hw dX12_laysBest_191 ?_
  refine lv_istore_n (lv' := [(2, .int x2), (0, .ref v0), (1, .int v1), (4, .int v4)]) hx hb dX12_laysBest_192 rfl hl (by decide) rfl (fun ls hl => ?_)
  refine lv_aload_n hx hb dX12_laysBest_193 rfl (lv_at hl 1 rfl) ?_
  obtain ⟨a3, e, hf⟩ := ob hf
  refine q_getR e B hw fd_12_22.1 fd_12_22.2.1 fd_12_22.2.2.1 fd_12_22.2.2.2.1 fd_12_22.2.2.2.2 rfl tw_6_65 dX12_laysBest_194 ?_
  refine lv_iload hx hb dX12_laysBest_197 (lv_at hl 3 rfl) ?_
  obtain ⟨x4, e, hf⟩ := ob hf
  refine q_ldI e B hw dX12_laysBest_199 ?_
  refine lv_iconst (v := 1) hx hb dX12_laysBest_200 (by decide) ?_
  refine lv_iadd hx hb dX12_laysBest_201 ?_
  obtain ⟨x5, e, hf⟩ := ob hf
  refine q_nmI e ?_
  refine lv_istore_n (lv' := [(3, .int x5), (2, .int x2), (0, .ref v0), (1, .int v1), (4, .int v4)]) hx hb dX12_laysBest_202 rfl hl (by decide) rfl (fun ls hl => ?_)
  exact w_X12_laysBest_203 G B hz hc0 hr hlk H_X12_laysBest  h v0 v1 x2 x5 _ _ _ hw (lv_sub hl [2, 3, 1, 0] rfl) hf
set_option maxHeartbeats 4000000 in
theorem w_X12_laysBest_125 {p : Program} {l : Launch} {e : Env} {s : State} {m : MethodId} {args : Array Value} {below : List Frame} {meth : Method} {c : Code} {s0 : State} {E : Ev} {z : Sh} {d : Nat} {g_X12_laysBest : Sh → Hp → Nat → Int32 → Option (Hp)} {n : Nat} {h' : Hp} (G : Gl s0 E) (B : Bd p s0 s E m c cX12_laysBest 7 RX12) (hz : s0.heap.size ≤ z.sz) (hc0 : s.heap.size + 0 = z.sz) (hr : meth.sig.returnType = none) (hlk : meth.locks = false) (H_X12_laysBest : ∀ {z : Sh} {h : Hp} {v0 : Nat} {v1 : Int32} {h' : Hp}, g_X12_laysBest z h v0 v1 = some h' → Ct l s0 E yX12_laysBest cX12_laysBest 7 none (5 + d) (94 + 60 * d) [.ref v0, .int v1] z h h' (none)) : ∀ (h : Hp) (v0 : Nat) (v1 : Int32) (v2 : Int32) (v3 : Int32) (H : Heap) (locs : List Loc) (ls : Array Slot), Pw s0 s E z h H locs → lv_has ls 7 [(0, .ref v0), (1, .int v1), (2, .int v2), (3, .int v3)] → f_X12_laysBest_125 n g_X12_laysBest z h v0 v1 v2 v3 = some h' → W p l e (rmO (5 + (d + 1)) (94 + 60 * (d + 1))) s m args below meth c H locs 0 0 (Zt below s0 E z h' (none) args s 0 0) (F0 m 125 ls []) := by
  have hx := B.1
  have hb := B.2.1
  intro h v0 v1 v2 v3 H locs ls hw hl hf
  unfold f_X12_laysBest_125 at hf
  refine lv_aload_n hx hb dX12_laysBest_125 rfl (lv_at hl 0 rfl) ?_
  refine lv_iload_n hx hb dX12_laysBest_126 rfl (lv_at hl 1 rfl) ?_
  obtain ⟨x1, e, hf⟩ := ob hf
  refine q_callV (As := [.int v1]) (rest := []) (st1 := [.int x1]) (c_X12_canDraw G e) B hw hz hc0 (k_X12_canDraw e) (by decide) (ci := 12) rfl rfl my_X12_canDraw mv_X12_canDraw tw_8_1 ⟨by simp only [rmO, rmA]; omega, by simp only [rmO, rmA]; omega⟩ ⟨Nat.zero_le _, Nat.zero_le _⟩ rfl hl.1 rfl rfl (Nat.le_of_ble_eq_true rfl) dX12_laysBest_127 (fun H locs hw => ?_)
  refine lv_if_eq (tgt := 203) hx hb dX12_laysBest_130 (by decide) (fun c2 => ?_) (fun c2 => ?_)
  · have hf := (if_pos c2).symm.trans hf
    exact w_X12_laysBest_203 G B hz hc0 hr hlk H_X12_laysBest  h v0 v1 v2 v3 _ _ _ hw (lv_sub hl [0, 1, 2, 3] rfl) hf
  · have hf := (if_neg c2).symm.trans hf
    refine lv_aload_n hx hb dX12_laysBest_133 rfl (lv_at hl 0 rfl) ?_
    refine lv_aload_n hx hb dX12_laysBest_134 rfl (lv_at hl 0 rfl) ?_
    obtain ⟨x3, e, hf⟩ := ob hf
    refine q_getI e B hw fd_12_25.1 fd_12_25.2.1 fd_12_25.2.2.1 fd_12_25.2.2.2.1 fd_12_25.2.2.2.2 rfl tw_6_68 dX12_laysBest_135 ?_
    refine lv_iload_n hx hb dX12_laysBest_138 rfl (lv_at hl 1 rfl) ?_
    obtain ⟨⟨x4, h5⟩, e, hf⟩ := ob hf
    refine q_callV (As := [.int x3, .int v1]) (rest := []) (st1 := [.int x4]) (c_X12_drawnTo G e) B hw hz hc0 (k_X12_drawnTo e) (by decide) (ci := 12) rfl rfl my_X12_drawnTo mv_X12_drawnTo tw_7_135 ⟨by simp only [rmO, rmA]; omega, by simp only [rmO, rmA]; omega⟩ ⟨Nat.zero_le _, Nat.zero_le _⟩ rfl hl.1 rfl rfl (Nat.le_of_ble_eq_true rfl) dX12_laysBest_139 (fun H locs hw => ?_)
    refine lv_istore (lv' := [(4, .int x4), (0, .ref v0), (1, .int v1), (2, .int v2), (3, .int v3)]) hx hb dX12_laysBest_142 hl (by decide) rfl (fun ls hl => ?_)
    refine lv_aload_n hx hb dX12_laysBest_144 rfl (lv_at hl 1 rfl) ?_
    refine lv_iload hx hb dX12_laysBest_145 (lv_at hl 0 rfl) ?_
    obtain ⟨_, eK, hf⟩ := ob hf
    obtain ⟨h6, e, hf⟩ := ob hf
    refine q_callV (As := [.int x4]) (rest := []) (st1 := []) (H_X12_laysBest e) B hw hz hc0 ((if_some eK).1) (by decide) (ci := 12) rfl rfl my_X12_laysBest mv_X12_laysBest tw_7_237 ⟨by simp only [rmO, rmA]; omega, by simp only [rmO, rmA]; omega⟩ ⟨Nat.zero_le _, Nat.zero_le _⟩ rfl hl.1 rfl rfl (Nat.le_of_ble_eq_true rfl) dX12_laysBest_147 (fun H locs hw => ?_)
    refine lv_aload_n hx hb dX12_laysBest_150 rfl (lv_at hl 1 rfl) ?_
    obtain ⟨a7, e, hf⟩ := ob hf
    refine q_getR e B hw fd_12_21.1 fd_12_21.2.1 fd_12_21.2.2.1 fd_12_21.2.2.2.1 fd_12_21.2.2.2.2 rfl tw_6_64 dX12_laysBest_151 ?_
    refine lv_iload hx hb dX12_laysBest_154 (lv_at hl 0 rfl) ?_
    obtain ⟨x8, e, hf⟩ := ob hf
    refine q_ldI e B hw dX12_laysBest_156 ?_
    refine lv_iload_n hx hb dX12_laysBest_157 rfl (lv_at hl 3 rfl) ?_
    refine lv_icmp_gt (tgt := 185) hx hb dX12_laysBest_158 (by decide) (fun c9 => ?_) (fun c9 => ?_)
    · have hf := (if_pos c9).symm.trans hf
      exact w_X12_laysBest_185 G B hz hc0 hr hlk H_X12_laysBest  h6 v0 v1 x4 _ _ _ hw (lv_sub hl [1, 2, 0] rfl) hf
    · have hf := (if_neg c9).symm.trans hf
      refine lv_aload_n hx hb dX12_laysBest_161 rfl (lv_at hl 1 rfl) ?_
      obtain ⟨a10, e, hf⟩ := ob hf
      refine q_getR e B hw fd_12_21.1 fd_12_21.2.1 fd_12_21.2.2.1 fd_12_21.2.2.2.1 fd_12_21.2.2.2.2 rfl tw_6_64 dX12_laysBest_162 ?_
      refine lv_iload hx hb dX12_laysBest_165 (lv_at hl 0 rfl) ?_
      obtain ⟨x11, e, hf⟩ := ob hf
      refine q_ldI e B hw dX12_laysBest_167 ?_
      refine lv_iload_n hx hb dX12_laysBest_168 rfl (lv_at hl 3 rfl) ?_
      refine lv_icmp_ne (tgt := 203) hx hb dX12_laysBest_169 (by decide) (fun c12 => ?_) (fun c12 => ?_)
      · have hf := (if_neg c12).symm.trans hf
        exact w_X12_laysBest_203 G B hz hc0 hr hlk H_X12_laysBest  h6 v0 v1 v2 v3 _ _ _ hw (lv_sub hl [1, 2, 3, 4] rfl) hf
      · have hf := (if_pos c12).symm.trans hf
        refine lv_aload_n hx hb dX12_laysBest_172 rfl (lv_at hl 1 rfl) ?_
        obtain ⟨a13, e, hf⟩ := ob hf
        refine q_getR e B hw fd_12_22.1 fd_12_22.2.1 fd_12_22.2.2.1 fd_12_22.2.2.2.1 fd_12_22.2.2.2.2 rfl tw_6_65 dX12_laysBest_173 ?_
        refine lv_iload hx hb dX12_laysBest_176 (lv_at hl 0 rfl) ?_
        obtain ⟨x14, e, hf⟩ := ob hf
        refine q_ldI e B hw dX12_laysBest_178 ?_
        refine lv_iconst (v := 1) hx hb dX12_laysBest_179 (by decide) ?_
        refine lv_iadd hx hb dX12_laysBest_180 ?_
        refine lv_iload_n hx hb dX12_laysBest_181 rfl (lv_at hl 4 rfl) ?_
        refine lv_icmp_ge (tgt := 203) hx hb dX12_laysBest_182 (by decide) (fun c15 => ?_) (fun c15 => ?_)
        · have hf := (if_pos c15).symm.trans hf
          exact w_X12_laysBest_203 G B hz hc0 hr hlk H_X12_laysBest  h6 v0 v1 v2 v3 _ _ _ hw (lv_sub hl [1, 2, 3, 4] rfl) hf
        · have hf := (if_neg c15).symm.trans hf
          exact w_X12_laysBest_185 G B hz hc0 hr hlk H_X12_laysBest  h6 v0 v1 x4 _ _ _ hw (lv_sub hl [1, 2, 0] rfl) hf
set_option maxHeartbeats 4000000 in
theorem w_X12_laysBest_119 {p : Program} {l : Launch} {e : Env} {s : State} {m : MethodId} {args : Array Value} {below : List Frame} {meth : Method} {c : Code} {s0 : State} {E : Ev} {z : Sh} {d : Nat} {g_X12_laysBest : Sh → Hp → Nat → Int32 → Option (Hp)} {n : Nat} {k24 : Hp → Nat → Int32 → Int32 → Int32 → Int32 → Option (Hp)} {h' : Hp} (G : Gl s0 E) (B : Bd p s0 s E m c cX12_laysBest 7 RX12) (hz : s0.heap.size ≤ z.sz) (hc0 : s.heap.size + 0 = z.sz) (hr : meth.sig.returnType = none) (hlk : meth.locks = false) (H_X12_laysBest : ∀ {z : Sh} {h : Hp} {v0 : Nat} {v1 : Int32} {h' : Hp}, g_X12_laysBest z h v0 v1 = some h' → Ct l s0 E yX12_laysBest cX12_laysBest 7 none (5 + d) (94 + 60 * d) [.ref v0, .int v1] z h h' (none)) (hk24 : ∀ (h : Hp) (v0 : Nat) (v1 : Int32) (v2 : Int32) (v3 : Int32) (v4 : Int32) (H : Heap) (locs : List Loc) (ls : Array Slot), Pw s0 s E z h H locs → lv_has ls 7 [(0, .ref v0), (1, .int v1), (2, .int v2), (3, .int v3), (4, .int v4)] → k24 h v0 v1 v2 v3 v4 = some h' → W p l e (rmO (5 + (d + 1)) (94 + 60 * (d + 1))) s m args below meth c H locs 0 0 (Zt below s0 E z h' (none) args s 0 0) (F0 m 24 ls [])) : ∀ (h : Hp) (v0 : Nat) (v1 : Int32) (v2 : Int32) (v3 : Int32) (v4 : Int32) (H : Heap) (locs : List Loc) (ls : Array Slot), Pw s0 s E z h H locs → lv_has ls 7 [(0, .ref v0), (1, .int v1), (2, .int v2), (3, .int v3), (4, .int v4)] → f_X12_laysBest_119 n g_X12_laysBest z k24 h v0 v1 v2 v3 v4 = some h' → W p l e (rmO (5 + (d + 1)) (94 + 60 * (d + 1))) s m args below meth c H locs 0 0 (Zt below s0 E z h' (none) args s 0 0) (F0 m 119 ls []) := by
  have hx := B.1
  have hb := B.2.1
  intro h v0 v1 v2 v3 v4 H locs ls hw hl hf
  unfold f_X12_laysBest_119 at hf
  obtain ⟨x1, e, hf⟩ := ob hf
  refine lv_iinc (v := x1) (lv' := [(4, .int x1), (0, .ref v0), (1, .int v1), (2, .int v2), (3, .int v3)]) hx hb dX12_laysBest_119 hl (k := 4) rfl (Option.some.inj e) (by decide) rfl (fun ls hl => ?_)
  refine lv_goto (tgt := 24) hx hb dX12_laysBest_122 (by decide) ?_
  exact hk24 h v0 v1 v2 v3 x1 _ _ _ hw (lv_sub hl [1, 2, 3, 4, 0] rfl) hf
set_option maxHeartbeats 4000000 in
theorem w_X12_laysBest_106 {p : Program} {l : Launch} {e : Env} {s : State} {m : MethodId} {args : Array Value} {below : List Frame} {meth : Method} {c : Code} {s0 : State} {E : Ev} {z : Sh} {d : Nat} {g_X12_laysBest : Sh → Hp → Nat → Int32 → Option (Hp)} {n : Nat} {k24 : Hp → Nat → Int32 → Int32 → Int32 → Int32 → Option (Hp)} {h' : Hp} (G : Gl s0 E) (B : Bd p s0 s E m c cX12_laysBest 7 RX12) (hz : s0.heap.size ≤ z.sz) (hc0 : s.heap.size + 0 = z.sz) (hr : meth.sig.returnType = none) (hlk : meth.locks = false) (H_X12_laysBest : ∀ {z : Sh} {h : Hp} {v0 : Nat} {v1 : Int32} {h' : Hp}, g_X12_laysBest z h v0 v1 = some h' → Ct l s0 E yX12_laysBest cX12_laysBest 7 none (5 + d) (94 + 60 * d) [.ref v0, .int v1] z h h' (none)) (hk24 : ∀ (h : Hp) (v0 : Nat) (v1 : Int32) (v2 : Int32) (v3 : Int32) (v4 : Int32) (H : Heap) (locs : List Loc) (ls : Array Slot), Pw s0 s E z h H locs → lv_has ls 7 [(0, .ref v0), (1, .int v1), (2, .int v2), (3, .int v3), (4, .int v4)] → k24 h v0 v1 v2 v3 v4 = some h' → W p l e (rmO (5 + (d + 1)) (94 + 60 * (d + 1))) s m args below meth c H locs 0 0 (Zt below s0 E z h' (none) args s 0 0) (F0 m 24 ls [])) : ∀ (h : Hp) (v0 : Nat) (v1 : Int32) (v4 : Int32) (v5 : Int32) (v6 : Int32) (H : Heap) (locs : List Loc) (ls : Array Slot), Pw s0 s E z h H locs → lv_has ls 7 [(0, .ref v0), (1, .int v1), (4, .int v4), (5, .int v5), (6, .int v6)] → f_X12_laysBest_106 n g_X12_laysBest z k24 h v0 v1 v4 v5 v6 = some h' → W p l e (rmO (5 + (d + 1)) (94 + 60 * (d + 1))) s m args below meth c H locs 0 0 (Zt below s0 E z h' (none) args s 0 0) (F0 m 106 ls []) := by
  have hx := B.1
  have hb := B.2.1
  intro h v0 v1 v4 v5 v6 H locs ls hw hl hf
  unfold f_X12_laysBest_106 at hf
  refine lv_iload hx hb dX12_laysBest_106 (lv_at hl 4 rfl) ?_
  refine lv_istore_n (lv' := [(2, .int v6), (0, .ref v0), (1, .int v1), (4, .int v4), (5, .int v5), (6, .int v6)]) hx hb dX12_laysBest_108 rfl hl (by decide) rfl (fun ls hl => ?_)
  refine lv_aload_n hx hb dX12_laysBest_109 rfl (lv_at hl 1 rfl) ?_
  obtain ⟨a1, e, hf⟩ := ob hf
  refine q_getR e B hw fd_12_22.1 fd_12_22.2.1 fd_12_22.2.2.1 fd_12_22.2.2.2.1 fd_12_22.2.2.2.2 rfl tw_6_65 dX12_laysBest_110 ?_
  refine lv_iload hx hb dX12_laysBest_113 (lv_at hl 4 rfl) ?_
  obtain ⟨x2, e, hf⟩ := ob hf
  refine q_ldI e B hw dX12_laysBest_115 ?_
  refine lv_iconst (v := 1) hx hb dX12_laysBest_116 (by decide) ?_
  refine lv_iadd hx hb dX12_laysBest_117 ?_
  obtain ⟨x3, e, hf⟩ := ob hf
  refine q_nmI e ?_
  refine lv_istore_n (lv' := [(3, .int x3), (2, .int v6), (0, .ref v0), (1, .int v1), (4, .int v4), (5, .int v5), (6, .int v6)]) hx hb dX12_laysBest_118 rfl hl (by decide) rfl (fun ls hl => ?_)
  exact w_X12_laysBest_119 G B hz hc0 hr hlk H_X12_laysBest hk24 h v0 v1 v6 x3 v4 _ _ _ hw (lv_sub hl [2, 3, 1, 0, 4] rfl) hf
set_option maxHeartbeats 4000000 in
theorem w_X12_laysBest_24 {p : Program} {l : Launch} {e : Env} {s : State} {m : MethodId} {args : Array Value} {below : List Frame} {meth : Method} {c : Code} {s0 : State} {E : Ev} {z : Sh} {d : Nat} {g_X12_laysBest : Sh → Hp → Nat → Int32 → Option (Hp)} {n : Nat} {h' : Hp} (G : Gl s0 E) (B : Bd p s0 s E m c cX12_laysBest 7 RX12) (hz : s0.heap.size ≤ z.sz) (hc0 : s.heap.size + 0 = z.sz) (hr : meth.sig.returnType = none) (hlk : meth.locks = false) (H_X12_laysBest : ∀ {z : Sh} {h : Hp} {v0 : Nat} {v1 : Int32} {h' : Hp}, g_X12_laysBest z h v0 v1 = some h' → Ct l s0 E yX12_laysBest cX12_laysBest 7 none (5 + d) (94 + 60 * d) [.ref v0, .int v1] z h h' (none)) : ∀ (i : Nat), ∀ (h : Hp) (v0 : Nat) (v1 : Int32) (v2 : Int32) (v3 : Int32) (v4 : Int32) (H : Heap) (locs : List Loc) (ls : Array Slot), Pw s0 s E z h H locs → lv_has ls 7 [(0, .ref v0), (1, .int v1), (2, .int v2), (3, .int v3), (4, .int v4)] → f_X12_laysBest_24 n g_X12_laysBest z i h v0 v1 v2 v3 v4 = some h' → W p l e (rmO (5 + (d + 1)) (94 + 60 * (d + 1))) s m args below meth c H locs 0 0 (Zt below s0 E z h' (none) args s 0 0) (F0 m 24 ls []) := by
  have hx := B.1
  have hb := B.2.1
  intro i
  induction i with
  | zero =>
    intro h v0 v1 v2 v3 v4 H locs ls hw hl hf
    have hf := (f_X12_laysBest_24.eq_1 ..).symm.trans hf
    cases hf
  | succ i ih =>
    intro h v0 v1 v2 v3 v4 H locs ls hw hl hf
    have hf := (f_X12_laysBest_24.eq_2 ..).symm.trans hf
    refine lv_iload hx hb dX12_laysBest_24 (lv_at hl 4 rfl) ?_
    refine lv_aload_n hx hb dX12_laysBest_26 rfl (lv_at hl 0 rfl) ?_
    obtain ⟨a1, e, hf⟩ := ob hf
    refine q_getR e B hw fd_12_1.1 fd_12_1.2.1 fd_12_1.2.2.1 fd_12_1.2.2.2.1 fd_12_1.2.2.2.2 rfl tw_6_44 dX12_laysBest_27 ?_
    refine lv_iconst (v := 2) hx hb dX12_laysBest_30 (by decide) ?_
    obtain ⟨x2, e, hf⟩ := ob hf
    refine q_ldI e B hw dX12_laysBest_31 ?_
    refine lv_icmp_ge (tgt := 125) hx hb dX12_laysBest_32 (by decide) (fun c3 => ?_) (fun c3 => ?_)
    · have hf := (if_pos c3).symm.trans hf
      exact w_X12_laysBest_125 G B hz hc0 hr hlk H_X12_laysBest  h v0 v1 v2 v3 _ _ _ hw (lv_sub hl [0, 1, 2, 3] rfl) hf
    · have hf := (if_neg c3).symm.trans hf
      refine lv_aload_n hx hb dX12_laysBest_35 rfl (lv_at hl 0 rfl) ?_
      refine lv_iload_n hx hb dX12_laysBest_36 rfl (lv_at hl 1 rfl) ?_
      obtain ⟨x4, e, hf⟩ := ob hf
      refine q_callV (As := [.int v1]) (rest := []) (st1 := [.int x4]) (c_X12_isOver G e) B hw hz hc0 (k_X12_isOver e) (by decide) (ci := 12) rfl rfl my_X12_isOver mv_X12_isOver tw_7_55 ⟨by simp only [rmO, rmA]; omega, by simp only [rmO, rmA]; omega⟩ ⟨Nat.zero_le _, Nat.zero_le _⟩ rfl hl.1 rfl rfl (Nat.le_of_ble_eq_true rfl) dX12_laysBest_37 (fun H locs hw => ?_)
      refine lv_if_ne (tgt := 125) hx hb dX12_laysBest_40 (by decide) (fun c5 => ?_) (fun c5 => ?_)
      · have hf := (if_neg c5).symm.trans hf
        exact w_X12_laysBest_125 G B hz hc0 hr hlk H_X12_laysBest  h v0 v1 v2 v3 _ _ _ hw (lv_sub hl [0, 1, 2, 3] rfl) hf
      · have hf := (if_pos c5).symm.trans hf
        refine lv_iload_n hx hb dX12_laysBest_43 rfl (lv_at hl 1 rfl) ?_
        refine lv_iload hx hb dX12_laysBest_44 (lv_at hl 4 rfl) ?_
        obtain ⟨x6, e, hf⟩ := ob hf
        refine q_callS (As := [.int v1, .int v4]) (rest := []) (st1 := [.int x6]) (c_X12_livedTo G e) B hw hz hc0 my_X12_livedTo mv_X12_livedTo tw_7_112 ⟨by simp only [rmO, rmA]; omega, by simp only [rmO, rmA]; omega⟩ ⟨Nat.zero_le _, Nat.zero_le _⟩ rfl hl.1 rfl rfl (Nat.le_of_ble_eq_true rfl) dX12_laysBest_46 (fun H locs hw => ?_)
        refine lv_istore (lv' := [(5, .int x6), (0, .ref v0), (1, .int v1), (2, .int v2), (3, .int v3), (4, .int v4)]) hx hb dX12_laysBest_49 hl (by decide) rfl (fun ls hl => ?_)
        refine lv_aload_n hx hb dX12_laysBest_51 rfl (lv_at hl 1 rfl) ?_
        refine lv_iload hx hb dX12_laysBest_52 (lv_at hl 0 rfl) ?_
        obtain ⟨_, eK, hf⟩ := ob hf
        obtain ⟨h7, e, hf⟩ := ob hf
        refine q_callV (As := [.int x6]) (rest := []) (st1 := []) (H_X12_laysBest e) B hw hz hc0 ((if_some eK).1) (by decide) (ci := 12) rfl rfl my_X12_laysBest mv_X12_laysBest tw_7_237 ⟨by simp only [rmO, rmA]; omega, by simp only [rmO, rmA]; omega⟩ ⟨Nat.zero_le _, Nat.zero_le _⟩ rfl hl.1 rfl rfl (Nat.le_of_ble_eq_true rfl) dX12_laysBest_54 (fun H locs hw => ?_)
        refine lv_aload_n hx hb dX12_laysBest_57 rfl (lv_at hl 1 rfl) ?_
        refine lv_aload_n hx hb dX12_laysBest_58 rfl (lv_at hl 1 rfl) ?_
        obtain ⟨x8, e, hf⟩ := ob hf
        refine q_getI e B hw fd_12_25.1 fd_12_25.2.1 fd_12_25.2.2.1 fd_12_25.2.2.2.1 fd_12_25.2.2.2.2 rfl tw_6_68 dX12_laysBest_59 ?_
        refine lv_iload_n hx hb dX12_laysBest_62 rfl (lv_at hl 2 rfl) ?_
        refine lv_iload hx hb dX12_laysBest_63 (lv_at hl 5 rfl) ?_
        obtain ⟨⟨x9, h10⟩, e, hf⟩ := ob hf
        refine q_callV (As := [.int x8, .int v1, .int v4]) (rest := []) (st1 := [.int x9]) (c_X12_worthOf G e) B hw hz hc0 (k_X12_worthOf e) (by decide) (ci := 12) rfl rfl my_X12_worthOf mv_X12_worthOf tw_7_62 ⟨by simp only [rmO, rmA]; omega, by simp only [rmO, rmA]; omega⟩ ⟨Nat.zero_le _, Nat.zero_le _⟩ rfl hl.1 rfl rfl (Nat.le_of_ble_eq_true rfl) dX12_laysBest_65 (fun H locs hw => ?_)
        refine lv_aload_n hx hb dX12_laysBest_68 rfl (lv_at hl 1 rfl) ?_
        obtain ⟨a11, e, hf⟩ := ob hf
        refine q_getR e B hw fd_12_21.1 fd_12_21.2.1 fd_12_21.2.2.1 fd_12_21.2.2.2.1 fd_12_21.2.2.2.2 rfl tw_6_64 dX12_laysBest_69 ?_
        refine lv_iload hx hb dX12_laysBest_72 (lv_at hl 0 rfl) ?_
        obtain ⟨x12, e, hf⟩ := ob hf
        refine q_ldI e B hw dX12_laysBest_74 ?_
        refine lv_iadd hx hb dX12_laysBest_75 ?_
        obtain ⟨x13, e, hf⟩ := ob hf
        refine q_nmI e ?_
        refine lv_istore (lv' := [(6, .int x13), (5, .int x6), (0, .ref v0), (1, .int v1), (2, .int v2), (3, .int v3), (4, .int v4)]) hx hb dX12_laysBest_76 hl (by decide) rfl (fun ls hl => ?_)
        refine lv_iload hx hb dX12_laysBest_78 (lv_at hl 0 rfl) ?_
        refine lv_iload_n hx hb dX12_laysBest_80 rfl (lv_at hl 4 rfl) ?_
        refine lv_icmp_lt (tgt := 119) hx hb dX12_laysBest_81 (by decide) (fun c14 => ?_) (fun c14 => ?_)
        · have hf := (if_pos c14).symm.trans hf
          exact w_X12_laysBest_119 G B hz hc0 hr hlk H_X12_laysBest ih h10 v0 v1 v2 v3 v4 _ _ _ hw (lv_sub hl [2, 3, 4, 5, 6] rfl) hf
        · have hf := (if_neg c14).symm.trans hf
          refine lv_iload hx hb dX12_laysBest_84 (lv_at hl 0 rfl) ?_
          refine lv_iload_n hx hb dX12_laysBest_86 rfl (lv_at hl 4 rfl) ?_
          refine lv_icmp_ne (tgt := 106) hx hb dX12_laysBest_87 (by decide) (fun c15 => ?_) (fun c15 => ?_)
          · have hf := (if_neg c15).symm.trans hf
            exact w_X12_laysBest_106 G B hz hc0 hr hlk H_X12_laysBest ih h10 v0 v1 v4 x6 x13 _ _ _ hw (lv_sub hl [2, 3, 6, 1, 0] rfl) hf
          · have hf := (if_pos c15).symm.trans hf
            refine lv_aload_n hx hb dX12_laysBest_90 rfl (lv_at hl 2 rfl) ?_
            obtain ⟨a16, e, hf⟩ := ob hf
            refine q_getR e B hw fd_12_22.1 fd_12_22.2.1 fd_12_22.2.2.1 fd_12_22.2.2.2.1 fd_12_22.2.2.2.2 rfl tw_6_65 dX12_laysBest_91 ?_
            refine lv_iload hx hb dX12_laysBest_94 (lv_at hl 1 rfl) ?_
            obtain ⟨x17, e, hf⟩ := ob hf
            refine q_ldI e B hw dX12_laysBest_96 ?_
            refine lv_iconst (v := 1) hx hb dX12_laysBest_97 (by decide) ?_
            refine lv_iadd hx hb dX12_laysBest_98 ?_
            refine lv_iload_n hx hb dX12_laysBest_99 rfl (lv_at hl 5 rfl) ?_
            refine lv_icmp_lt (tgt := 106) hx hb dX12_laysBest_100 (by decide) (fun c18 => ?_) (fun c18 => ?_)
            · have hf := (if_pos c18).symm.trans hf
              exact w_X12_laysBest_106 G B hz hc0 hr hlk H_X12_laysBest ih h10 v0 v1 v4 x6 x13 _ _ _ hw (lv_sub hl [2, 3, 6, 1, 0] rfl) hf
            · have hf := (if_neg c18).symm.trans hf
              refine lv_goto (tgt := 119) hx hb dX12_laysBest_103 (by decide) ?_
              exact w_X12_laysBest_119 G B hz hc0 hr hlk H_X12_laysBest ih h10 v0 v1 v2 v3 v4 _ _ _ hw (lv_sub hl [2, 3, 4, 5, 6] rfl) hf
set_option maxHeartbeats 4000000 in
theorem co_X12_laysBest {l : Launch} {s0 : State} {E : Ev} (G : Gl s0 E) {n : Nat} {d : Nat} {g_X12_laysBest : Sh → Hp → Nat → Int32 → Option (Hp)} (H_X12_laysBest : ∀ {z : Sh} {h : Hp} {v0 : Nat} {v1 : Int32} {h' : Hp}, g_X12_laysBest z h v0 v1 = some h' → Ct l s0 E yX12_laysBest cX12_laysBest 7 none (5 + d) (94 + 60 * d) [.ref v0, .int v1] z h h' (none)) {z : Sh} {h : Hp} {v0 : Nat} {v1 : Int32} {h' : Hp} (hf : F_X12_laysBest n g_X12_laysBest z h v0 v1 = some h') : Ct l s0 E yX12_laysBest cX12_laysBest 7 none (5 + (d + 1)) (94 + 60 * (d + 1)) [.ref v0, .int v1] z h h' (none) := by
  refine Ct.of G (by decide) (Nat.le_of_ble_eq_true rfl) ?_
  intro p e s m below meth c ls B hw hz hc0 hr hlk hl
  have B : Bd p s0 s E m c cX12_laysBest 7 RX12 := B
  have hx := B.1
  have hb := B.2.1
  have hl : lv_has ls 7 [(0, .ref v0), (1, .int v1)] := hl
  unfold F_X12_laysBest at hf
  obtain ⟨_, hf⟩ := if_some hf
  refine lv_aload_n hx hb dX12_laysBest_0 rfl (lv_at hl 0 rfl) ?_
  obtain ⟨a1, e, hf⟩ := ob hf
  refine q_getR e B hw fd_12_24.1 fd_12_24.2.1 fd_12_24.2.2.1 fd_12_24.2.2.2.1 fd_12_24.2.2.2.2 rfl tw_6_67 dX12_laysBest_1 ?_
  refine lv_iload_n hx hb dX12_laysBest_4 rfl (lv_at hl 1 rfl) ?_
  obtain ⟨x2, e, hf⟩ := ob hf
  refine q_ldZ e B hw dX12_laysBest_5 ?_
  refine lv_if_eq (tgt := 10) hx hb dX12_laysBest_6 (by decide) (fun c3 => ?_) (fun c3 => ?_)
  · have hf := (if_pos c3).symm.trans hf
    refine lv_aload_n hx hb dX12_laysBest_10 rfl (lv_at hl 0 rfl) ?_
    obtain ⟨a4, e, hf⟩ := ob hf
    refine q_getR e B hw fd_12_24.1 fd_12_24.2.1 fd_12_24.2.2.1 fd_12_24.2.2.2.1 fd_12_24.2.2.2.2 rfl tw_6_67 dX12_laysBest_11 ?_
    refine lv_iload_n hx hb dX12_laysBest_14 rfl (lv_at hl 1 rfl) ?_
    refine lv_iconst (v := 1) hx hb dX12_laysBest_15 (by decide) ?_
    obtain ⟨h5, e, hf⟩ := ob hf
    refine q_stZ e B hw dX12_laysBest_16 (fun H locs hw => ?_)
    refine lv_iconst (v := 0) hx hb dX12_laysBest_17 (by decide) ?_
    refine lv_istore_n (lv' := [(2, .int 0), (0, .ref v0), (1, .int v1)]) hx hb dX12_laysBest_18 rfl hl (by decide) rfl (fun ls hl => ?_)
    refine lv_iconst (v := 0) hx hb dX12_laysBest_19 (by decide) ?_
    refine lv_istore_n (lv' := [(3, .int 0), (2, .int 0), (0, .ref v0), (1, .int v1)]) hx hb dX12_laysBest_20 rfl hl (by decide) rfl (fun ls hl => ?_)
    refine lv_iconst (v := 0) hx hb dX12_laysBest_21 (by decide) ?_
    refine lv_istore (lv' := [(4, .int 0), (3, .int 0), (2, .int 0), (0, .ref v0), (1, .int v1)]) hx hb dX12_laysBest_22 hl (by decide) rfl (fun ls hl => ?_)
    exact w_X12_laysBest_24 G B hz hc0 hr hlk H_X12_laysBest  n h5 v0 v1 0 0 0 _ _ _ hw (lv_sub hl [3, 4, 2, 1, 0] rfl) hf
  · have hf := (if_neg c3).symm.trans hf
    obtain rfl := so hf
    exact q_vret B hw hz hc0 hr hlk dX12_laysBest_9
set_option maxHeartbeats 4000000 in
theorem cg_X12_laysBest {l : Launch} {s0 : State} {E : Ev} (G : Gl s0 E) {n : Nat} : ∀ d : Nat, (∀ {z : Sh} {h : Hp} {v0 : Nat} {v1 : Int32} {h' : Hp}, (rc_X12_laysBest n d) z h v0 v1 = some h' → Ct l s0 E yX12_laysBest cX12_laysBest 7 none (5 + d) (94 + 60 * d) [.ref v0, .int v1] z h h' (none)) := by
  intro d
  induction d with
  | zero => exact fun hf => by cases hf
  | succ d ih => exact fun hf => co_X12_laysBest (n := n) G (fun hf => ih hf) hf
theorem c_X12_laysBest {l : Launch} {s0 : State} {E : Ev} (G : Gl s0 E) {n : Nat} {z : Sh} {h : Hp} {v0 : Nat} {v1 : Int32} {h' : Hp} (hf : f_X12_laysBest n z h v0 v1 = some h') : Ct l s0 E yX12_laysBest cX12_laysBest 7 none 25 1294 [.ref v0, .int v1] z h h' (none) := (cg_X12_laysBest G 20) hf
/-! SecondLifeModel.nextBest(I)I -/
def f_X12_nextBest_82 (n : Nat) (z : Sh) (k13 : Hp → Nat → Int32 → Int32 → Option (Int32 × Hp)) (h : Hp) (v0 : Nat) (v1 : Int32) (v2 : Int32) : Option (Int32 × Hp) :=
  (some (v2 + 1)).bind fun x1 =>
  k13 h v0 v1 x1
def f_X12_nextBest_13 (n : Nat) (z : Sh) : Nat → Hp → Nat → Int32 → Int32 → Option (Int32 × Hp)
  | 0, _, _, _, _ => none
  | i + 1, h, v0, v1, v2 =>
    (gR z h 12 v0 1).bind fun a1 =>
    (ldI z h a1 2).bind fun x2 =>
    if x2 ≤ v2 then
      some ((9 : Int32), h)
    else
      (f_X12_isOver z h v0 v1).bind fun x4 =>
      if x4 = 0 then
        (f_X12_livedTo z h v1 v2).bind fun x6 =>
        (gI z h 12 v0 25).bind fun x7 =>
        (f_X12_worthOf n z h v0 x7 v1 v2).bind fun (x8, h9) =>
        (gR z h9 12 v0 21).bind fun a10 =>
        (ldI z h9 a10 x6).bind fun x11 =>
        (gR z h9 12 v0 21).bind fun a12 =>
        (ldI z h9 a12 v1).bind fun x13 =>
        if (x8 + x11) = x13 then
          (gR z h9 12 v0 22).bind fun a15 =>
          (ldI z h9 a15 x6).bind fun x16 =>
          (gR z h9 12 v0 22).bind fun a17 =>
          (ldI z h9 a17 v1).bind fun x18 =>
          if (x16 + 1) = x18 then
            some (v2, h9)
          else
            f_X12_nextBest_82 n z (f_X12_nextBest_13 n z i) h9 v0 v1 v2
        else
          f_X12_nextBest_82 n z (f_X12_nextBest_13 n z i) h9 v0 v1 v2
      else
        some ((9 : Int32), h)
def f_X12_nextBest (n : Nat) (z : Sh) (h : Hp) (v0 : Nat) (v1 : Int32) : Option (Int32 × Hp) :=
  if z.K v0 = 12 then
    (gR z h 12 v0 22).bind fun a1 =>
    (ldI z h a1 v1).bind fun x2 =>
    if x2 = 0 then
      some (((-1) : Int32), h)
    else
      f_X12_nextBest_13 n z n h v0 v1 0
  else none
theorem k_X12_nextBest {n : Nat} {z : Sh} {h : Hp} {v0 : Nat} {v1 : Int32} {w : Int32 × Hp} (hf : f_X12_nextBest n z h v0 v1 = some w) : z.K v0 = 12 := by
  unfold f_X12_nextBest at hf
  exact (if_some hf).1
set_option maxHeartbeats 4000000 in
theorem w_X12_nextBest_82 {p : Program} {l : Launch} {e : Env} {s : State} {m : MethodId} {args : Array Value} {below : List Frame} {meth : Method} {c : Code} {s0 : State} {E : Ev} {z : Sh} {n : Nat} {k13 : Hp → Nat → Int32 → Int32 → Option (Int32 × Hp)} {r : Int32} {h' : Hp} (G : Gl s0 E) (B : Bd p s0 s E m c cX12_nextBest 4 RX12) (hz : s0.heap.size ≤ z.sz) (hc0 : s.heap.size + 0 = z.sz) (hr : meth.sig.returnType = (some .int)) (hlk : meth.locks = false) (hk13 : ∀ (h : Hp) (v0 : Nat) (v1 : Int32) (v2 : Int32) (H : Heap) (locs : List Loc) (ls : Array Slot), Pw s0 s E z h H locs → lv_has ls 4 [(0, .ref v0), (1, .int v1), (2, .int v2)] → k13 h v0 v1 v2 = some (r, h') → W p l e (rmO 3 72) s m args below meth c H locs 0 0 (Zt below s0 E z h' (some (.int r)) args s 0 0) (F0 m 13 ls [])) : ∀ (h : Hp) (v0 : Nat) (v1 : Int32) (v2 : Int32) (H : Heap) (locs : List Loc) (ls : Array Slot), Pw s0 s E z h H locs → lv_has ls 4 [(0, .ref v0), (1, .int v1), (2, .int v2)] → f_X12_nextBest_82 n z k13 h v0 v1 v2 = some (r, h') → W p l e (rmO 3 72) s m args below meth c H locs 0 0 (Zt below s0 E z h' (some (.int r)) args s 0 0) (F0 m 82 ls []) := by
  have hx := B.1
  have hb := B.2.1
  intro h v0 v1 v2 H locs ls hw hl hf
  unfold f_X12_nextBest_82 at hf
  obtain ⟨x1, e, hf⟩ := ob hf
  refine lv_iinc (v := x1) (lv' := [(2, .int x1), (0, .ref v0), (1, .int v1)]) hx hb dX12_nextBest_82 hl (k := 2) rfl (Option.some.inj e) (by decide) rfl (fun ls hl => ?_)
  refine lv_goto (tgt := 13) hx hb dX12_nextBest_85 (by decide) ?_
  exact hk13 h v0 v1 x1 _ _ _ hw (lv_sub hl [1, 2, 0] rfl) hf
set_option maxHeartbeats 4000000 in
theorem w_X12_nextBest_13 {p : Program} {l : Launch} {e : Env} {s : State} {m : MethodId} {args : Array Value} {below : List Frame} {meth : Method} {c : Code} {s0 : State} {E : Ev} {z : Sh} {n : Nat} {r : Int32} {h' : Hp} (G : Gl s0 E) (B : Bd p s0 s E m c cX12_nextBest 4 RX12) (hz : s0.heap.size ≤ z.sz) (hc0 : s.heap.size + 0 = z.sz) (hr : meth.sig.returnType = (some .int)) (hlk : meth.locks = false) : ∀ (i : Nat), ∀ (h : Hp) (v0 : Nat) (v1 : Int32) (v2 : Int32) (H : Heap) (locs : List Loc) (ls : Array Slot), Pw s0 s E z h H locs → lv_has ls 4 [(0, .ref v0), (1, .int v1), (2, .int v2)] → f_X12_nextBest_13 n z i h v0 v1 v2 = some (r, h') → W p l e (rmO 3 72) s m args below meth c H locs 0 0 (Zt below s0 E z h' (some (.int r)) args s 0 0) (F0 m 13 ls []) := by
  have hx := B.1
  have hb := B.2.1
  intro i
  induction i with
  | zero =>
    intro h v0 v1 v2 H locs ls hw hl hf
    have hf := (f_X12_nextBest_13.eq_1 ..).symm.trans hf
    cases hf
  | succ i ih =>
    intro h v0 v1 v2 H locs ls hw hl hf
    have hf := (f_X12_nextBest_13.eq_2 ..).symm.trans hf
    refine lv_iload_n hx hb dX12_nextBest_13 rfl (lv_at hl 2 rfl) ?_
    refine lv_aload_n hx hb dX12_nextBest_14 rfl (lv_at hl 0 rfl) ?_
    obtain ⟨a1, e, hf⟩ := ob hf
    refine q_getR e B hw fd_12_1.1 fd_12_1.2.1 fd_12_1.2.2.1 fd_12_1.2.2.2.1 fd_12_1.2.2.2.2 rfl tw_6_44 dX12_nextBest_15 ?_
    refine lv_iconst (v := 2) hx hb dX12_nextBest_18 (by decide) ?_
    obtain ⟨x2, e, hf⟩ := ob hf
    refine q_ldI e B hw dX12_nextBest_19 ?_
    refine lv_icmp_ge (tgt := 88) hx hb dX12_nextBest_20 (by decide) (fun c3 => ?_) (fun c3 => ?_)
    · have hf := (if_pos c3).symm.trans hf
      refine lv_bipush (v := 9) hx hb dX12_nextBest_88 (by decide) ?_
      obtain ⟨rfl, rfl⟩ := so2 hf
      exact q_iret B hw hz hc0 hr hlk dX12_nextBest_90
    · have hf := (if_neg c3).symm.trans hf
      refine lv_aload_n hx hb dX12_nextBest_23 rfl (lv_at hl 0 rfl) ?_
      refine lv_iload_n hx hb dX12_nextBest_24 rfl (lv_at hl 1 rfl) ?_
      obtain ⟨x4, e, hf⟩ := ob hf
      refine q_callV (As := [.int v1]) (rest := []) (st1 := [.int x4]) (c_X12_isOver G e) B hw hz hc0 (k_X12_isOver e) (by decide) (ci := 12) rfl rfl my_X12_isOver mv_X12_isOver tw_7_55 ⟨Nat.le_of_ble_eq_true rfl, Nat.le_of_ble_eq_true rfl⟩ ⟨Nat.zero_le _, Nat.zero_le _⟩ rfl hl.1 rfl rfl (Nat.le_of_ble_eq_true rfl) dX12_nextBest_25 (fun H locs hw => ?_)
      refine lv_if_ne (tgt := 88) hx hb dX12_nextBest_28 (by decide) (fun c5 => ?_) (fun c5 => ?_)
      · have hf := (if_neg c5).symm.trans hf
        refine lv_bipush (v := 9) hx hb dX12_nextBest_88 (by decide) ?_
        obtain ⟨rfl, rfl⟩ := so2 hf
        exact q_iret B hw hz hc0 hr hlk dX12_nextBest_90
      · have hf := (if_pos c5).symm.trans hf
        refine lv_iload_n hx hb dX12_nextBest_31 rfl (lv_at hl 1 rfl) ?_
        refine lv_iload_n hx hb dX12_nextBest_32 rfl (lv_at hl 2 rfl) ?_
        obtain ⟨x6, e, hf⟩ := ob hf
        refine q_callS (As := [.int v1, .int v2]) (rest := []) (st1 := [.int x6]) (c_X12_livedTo G e) B hw hz hc0 my_X12_livedTo mv_X12_livedTo tw_7_112 ⟨Nat.le_of_ble_eq_true rfl, Nat.le_of_ble_eq_true rfl⟩ ⟨Nat.zero_le _, Nat.zero_le _⟩ rfl hl.1 rfl rfl (Nat.le_of_ble_eq_true rfl) dX12_nextBest_33 (fun H locs hw => ?_)
        refine lv_istore_n (lv' := [(3, .int x6), (0, .ref v0), (1, .int v1), (2, .int v2)]) hx hb dX12_nextBest_36 rfl hl (by decide) rfl (fun ls hl => ?_)
        refine lv_aload_n hx hb dX12_nextBest_37 rfl (lv_at hl 1 rfl) ?_
        refine lv_aload_n hx hb dX12_nextBest_38 rfl (lv_at hl 1 rfl) ?_
        obtain ⟨x7, e, hf⟩ := ob hf
        refine q_getI e B hw fd_12_25.1 fd_12_25.2.1 fd_12_25.2.2.1 fd_12_25.2.2.2.1 fd_12_25.2.2.2.2 rfl tw_6_68 dX12_nextBest_39 ?_
        refine lv_iload_n hx hb dX12_nextBest_42 rfl (lv_at hl 2 rfl) ?_
        refine lv_iload_n hx hb dX12_nextBest_43 rfl (lv_at hl 3 rfl) ?_
        obtain ⟨⟨x8, h9⟩, e, hf⟩ := ob hf
        refine q_callV (As := [.int x7, .int v1, .int v2]) (rest := []) (st1 := [.int x8]) (c_X12_worthOf G e) B hw hz hc0 (k_X12_worthOf e) (by decide) (ci := 12) rfl rfl my_X12_worthOf mv_X12_worthOf tw_7_62 ⟨Nat.le_of_ble_eq_true rfl, Nat.le_of_ble_eq_true rfl⟩ ⟨Nat.zero_le _, Nat.zero_le _⟩ rfl hl.1 rfl rfl (Nat.le_of_ble_eq_true rfl) dX12_nextBest_44 (fun H locs hw => ?_)
        refine lv_aload_n hx hb dX12_nextBest_47 rfl (lv_at hl 1 rfl) ?_
        obtain ⟨a10, e, hf⟩ := ob hf
        refine q_getR e B hw fd_12_21.1 fd_12_21.2.1 fd_12_21.2.2.1 fd_12_21.2.2.2.1 fd_12_21.2.2.2.2 rfl tw_6_64 dX12_nextBest_48 ?_
        refine lv_iload_n hx hb dX12_nextBest_51 rfl (lv_at hl 0 rfl) ?_
        obtain ⟨x11, e, hf⟩ := ob hf
        refine q_ldI e B hw dX12_nextBest_52 ?_
        refine lv_iadd hx hb dX12_nextBest_53 ?_
        refine lv_aload_n hx hb dX12_nextBest_54 rfl (lv_at hl 1 rfl) ?_
        obtain ⟨a12, e, hf⟩ := ob hf
        refine q_getR e B hw fd_12_21.1 fd_12_21.2.1 fd_12_21.2.2.1 fd_12_21.2.2.2.1 fd_12_21.2.2.2.2 rfl tw_6_64 dX12_nextBest_55 ?_
        refine lv_iload_n hx hb dX12_nextBest_58 rfl (lv_at hl 2 rfl) ?_
        obtain ⟨x13, e, hf⟩ := ob hf
        refine q_ldI e B hw dX12_nextBest_59 ?_
        refine lv_icmp_ne (tgt := 82) hx hb dX12_nextBest_60 (by decide) (fun c14 => ?_) (fun c14 => ?_)
        · have hf := (if_neg c14).symm.trans hf
          exact w_X12_nextBest_82 G B hz hc0 hr hlk ih h9 v0 v1 v2 _ _ _ hw (lv_sub hl [1, 2, 3] rfl) hf
        · have hf := (if_pos c14).symm.trans hf
          refine lv_aload_n hx hb dX12_nextBest_63 rfl (lv_at hl 1 rfl) ?_
          obtain ⟨a15, e, hf⟩ := ob hf
          refine q_getR e B hw fd_12_22.1 fd_12_22.2.1 fd_12_22.2.2.1 fd_12_22.2.2.2.1 fd_12_22.2.2.2.2 rfl tw_6_65 dX12_nextBest_64 ?_
          refine lv_iload_n hx hb dX12_nextBest_67 rfl (lv_at hl 0 rfl) ?_
          obtain ⟨x16, e, hf⟩ := ob hf
          refine q_ldI e B hw dX12_nextBest_68 ?_
          refine lv_iconst (v := 1) hx hb dX12_nextBest_69 (by decide) ?_
          refine lv_iadd hx hb dX12_nextBest_70 ?_
          refine lv_aload_n hx hb dX12_nextBest_71 rfl (lv_at hl 1 rfl) ?_
          obtain ⟨a17, e, hf⟩ := ob hf
          refine q_getR e B hw fd_12_22.1 fd_12_22.2.1 fd_12_22.2.2.1 fd_12_22.2.2.2.1 fd_12_22.2.2.2.2 rfl tw_6_65 dX12_nextBest_72 ?_
          refine lv_iload_n hx hb dX12_nextBest_75 rfl (lv_at hl 2 rfl) ?_
          obtain ⟨x18, e, hf⟩ := ob hf
          refine q_ldI e B hw dX12_nextBest_76 ?_
          refine lv_icmp_ne (tgt := 82) hx hb dX12_nextBest_77 (by decide) (fun c19 => ?_) (fun c19 => ?_)
          · have hf := (if_neg c19).symm.trans hf
            exact w_X12_nextBest_82 G B hz hc0 hr hlk ih h9 v0 v1 v2 _ _ _ hw (lv_sub hl [1, 2, 3] rfl) hf
          · have hf := (if_pos c19).symm.trans hf
            refine lv_iload_n hx hb dX12_nextBest_80 rfl (lv_at hl 3 rfl) ?_
            obtain ⟨rfl, rfl⟩ := so2 hf
            exact q_iret B hw hz hc0 hr hlk dX12_nextBest_81
set_option maxHeartbeats 4000000 in
theorem c_X12_nextBest {l : Launch} {s0 : State} {E : Ev} (G : Gl s0 E) {n : Nat} {z : Sh} {h : Hp} {v0 : Nat} {v1 : Int32} {r : Int32} {h' : Hp} (hf : f_X12_nextBest n z h v0 v1 = some (r, h')) : Ct l s0 E yX12_nextBest cX12_nextBest 4 (some .int) 3 72 [.ref v0, .int v1] z h h' (some (.int r)) := by
  refine Ct.of G (by decide) (Nat.le_of_ble_eq_true rfl) ?_
  intro p e s m below meth c ls B hw hz hc0 hr hlk hl
  have B : Bd p s0 s E m c cX12_nextBest 4 RX12 := B
  have hx := B.1
  have hb := B.2.1
  have hl : lv_has ls 4 [(0, .ref v0), (1, .int v1)] := hl
  unfold f_X12_nextBest at hf
  obtain ⟨_, hf⟩ := if_some hf
  refine lv_aload_n hx hb dX12_nextBest_0 rfl (lv_at hl 0 rfl) ?_
  obtain ⟨a1, e, hf⟩ := ob hf
  refine q_getR e B hw fd_12_22.1 fd_12_22.2.1 fd_12_22.2.2.1 fd_12_22.2.2.2.1 fd_12_22.2.2.2.2 rfl tw_6_65 dX12_nextBest_1 ?_
  refine lv_iload_n hx hb dX12_nextBest_4 rfl (lv_at hl 1 rfl) ?_
  obtain ⟨x2, e, hf⟩ := ob hf
  refine q_ldI e B hw dX12_nextBest_5 ?_
  refine lv_if_ne (tgt := 11) hx hb dX12_nextBest_6 (by decide) (fun c3 => ?_) (fun c3 => ?_)
  · have hf := (if_neg c3).symm.trans hf
    refine lv_iconst (v := 0) hx hb dX12_nextBest_11 (by decide) ?_
    refine lv_istore_n (lv' := [(2, .int 0), (0, .ref v0), (1, .int v1)]) hx hb dX12_nextBest_12 rfl hl (by decide) rfl (fun ls hl => ?_)
    exact w_X12_nextBest_13 G B hz hc0 hr hlk  n h v0 v1 0 _ _ _ hw (lv_sub hl [1, 2, 0] rfl) hf
  · have hf := (if_pos c3).symm.trans hf
    refine lv_iconst (v := (-1)) hx hb dX12_nextBest_9 (by decide) ?_
    obtain ⟨rfl, rfl⟩ := so2 hf
    exact q_iret B hw hz hc0 hr hlk dX12_nextBest_10
/-! SecondLifeModel.doneTo(II)I -/
def f_X12_doneTo (n : Nat) (z : Sh) (h : Hp) (v0 : Nat) (v1 : Int32) (v2 : Int32) : Option (Int32 × Hp) :=
  if z.K v0 = 12 then
    if v2 = 9 then
      (gI z h 12 v0 25).bind fun x3 =>
      (f_X12_drawnTo n z h v0 x3 v1).bind fun (x4, h5) =>
      some (x4, h5)
    else
      (f_X12_livedTo z h v1 v2).bind fun x2 =>
      some (x2, h)
  else none
theorem k_X12_doneTo {n : Nat} {z : Sh} {h : Hp} {v0 : Nat} {v1 : Int32} {v2 : Int32} {w : Int32 × Hp} (hf : f_X12_doneTo n z h v0 v1 v2 = some w) : z.K v0 = 12 := by
  unfold f_X12_doneTo at hf
  exact (if_some hf).1
set_option maxHeartbeats 4000000 in
theorem c_X12_doneTo {l : Launch} {s0 : State} {E : Ev} (G : Gl s0 E) {n : Nat} {z : Sh} {h : Hp} {v0 : Nat} {v1 : Int32} {v2 : Int32} {r : Int32} {h' : Hp} (hf : f_X12_doneTo n z h v0 v1 v2 = some (r, h')) : Ct l s0 E yX12_doneTo cX12_doneTo 3 (some .int) 4 93 [.ref v0, .int v1, .int v2] z h h' (some (.int r)) := by
  refine Ct.of G (by decide) (Nat.le_of_ble_eq_true rfl) ?_
  intro p e s m below meth c ls B hw hz hc0 hr hlk hl
  have B : Bd p s0 s E m c cX12_doneTo 3 RX12 := B
  have hx := B.1
  have hb := B.2.1
  have hl : lv_has ls 3 [(0, .ref v0), (1, .int v1), (2, .int v2)] := hl
  unfold f_X12_doneTo at hf
  obtain ⟨_, hf⟩ := if_some hf
  refine lv_iload_n hx hb dX12_doneTo_0 rfl (lv_at hl 2 rfl) ?_
  refine lv_bipush (v := 9) hx hb dX12_doneTo_1 (by decide) ?_
  refine lv_icmp_ne (tgt := 18) hx hb dX12_doneTo_3 (by decide) (fun c1 => ?_) (fun c1 => ?_)
  · have hf := (if_neg c1).symm.trans hf
    refine lv_iload_n hx hb dX12_doneTo_18 rfl (lv_at hl 1 rfl) ?_
    refine lv_iload_n hx hb dX12_doneTo_19 rfl (lv_at hl 2 rfl) ?_
    obtain ⟨x2, e, hf⟩ := ob hf
    refine q_callS (As := [.int v1, .int v2]) (rest := []) (st1 := [.int x2]) (c_X12_livedTo G e) B hw hz hc0 my_X12_livedTo mv_X12_livedTo tw_7_112 ⟨Nat.le_of_ble_eq_true rfl, Nat.le_of_ble_eq_true rfl⟩ ⟨Nat.zero_le _, Nat.zero_le _⟩ rfl hl.1 rfl rfl (Nat.le_of_ble_eq_true rfl) dX12_doneTo_20 (fun H locs hw => ?_)
    obtain ⟨rfl, rfl⟩ := so2 hf
    exact q_iret B hw hz hc0 hr hlk dX12_doneTo_23
  · have hf := (if_pos c1).symm.trans hf
    refine lv_aload_n hx hb dX12_doneTo_6 rfl (lv_at hl 0 rfl) ?_
    refine lv_aload_n hx hb dX12_doneTo_7 rfl (lv_at hl 0 rfl) ?_
    obtain ⟨x3, e, hf⟩ := ob hf
    refine q_getI e B hw fd_12_25.1 fd_12_25.2.1 fd_12_25.2.2.1 fd_12_25.2.2.2.1 fd_12_25.2.2.2.2 rfl tw_6_68 dX12_doneTo_8 ?_
    refine lv_iload_n hx hb dX12_doneTo_11 rfl (lv_at hl 1 rfl) ?_
    obtain ⟨⟨x4, h5⟩, e, hf⟩ := ob hf
    refine q_callV (As := [.int x3, .int v1]) (rest := []) (st1 := [.int x4]) (c_X12_drawnTo G e) B hw hz hc0 (k_X12_drawnTo e) (by decide) (ci := 12) rfl rfl my_X12_drawnTo mv_X12_drawnTo tw_7_135 ⟨Nat.le_of_ble_eq_true rfl, Nat.le_of_ble_eq_true rfl⟩ ⟨Nat.zero_le _, Nat.zero_le _⟩ rfl hl.1 rfl rfl (Nat.le_of_ble_eq_true rfl) dX12_doneTo_12 (fun H locs hw => ?_)
    refine lv_goto (tgt := 23) hx hb dX12_doneTo_15 (by decide) ?_
    obtain ⟨rfl, rfl⟩ := so2 hf
    exact q_iret B hw hz hc0 hr hlk dX12_doneTo_23
/-! SecondLifeModel.best(I)I -/
def f_X12_best (n : Nat) (z : Sh) (h : Hp) (v0 : Nat) (v1 : Int32) : Option (Int32 × Hp) :=
  if z.K v0 = 12 then
    (pI z h 12 v0 0 0).bind fun h1 =>
    (f_X12_isPerson z h1 v0 (Int32.toInt64 v1)).bind fun x2 =>
    if x2 = 0 then
      some (((-99000002) : Int32), h1)
    else
      (f_X12_begins n z h1 v0 v1).bind fun h4 =>
      (f_X12_standNow z h4 v0 v1).bind fun x5 =>
      (f_X12_laysBest n z h4 v0 x5).bind fun h6 =>
      (gR z h6 12 v0 21).bind fun a7 =>
      (f_X12_standNow z h6 v0 v1).bind fun x8 =>
      (ldI z h6 a7 x8).bind fun x9 =>
      some (x9, h6)
  else none
theorem k_X12_best {n : Nat} {z : Sh} {h : Hp} {v0 : Nat} {v1 : Int32} {w : Int32 × Hp} (hf : f_X12_best n z h v0 v1 = some w) : z.K v0 = 12 := by
  unfold f_X12_best at hf
  exact (if_some hf).1
set_option maxHeartbeats 4000000 in
theorem c_X12_best {l : Launch} {s0 : State} {E : Ev} (G : Gl s0 E) {n : Nat} {z : Sh} {h : Hp} {v0 : Nat} {v1 : Int32} {r : Int32} {h' : Hp} (hf : f_X12_best n z h v0 v1 = some (r, h')) : Ct l s0 E yX12_best cX12_best 2 (some .int) 26 1320 [.ref v0, .int v1] z h h' (some (.int r)) := by
  refine Ct.of G (by decide) (Nat.le_of_ble_eq_true rfl) ?_
  intro p e s m below meth c ls B hw hz hc0 hr hlk hl
  have B : Bd p s0 s E m c cX12_best 2 RX12 := B
  have hx := B.1
  have hb := B.2.1
  have hl : lv_has ls 2 [(0, .ref v0), (1, .int v1)] := hl
  unfold f_X12_best at hf
  obtain ⟨_, hf⟩ := if_some hf
  refine lv_aload_n hx hb dX12_best_0 rfl (lv_at hl 0 rfl) ?_
  refine lv_iconst (v := 0) hx hb dX12_best_1 (by decide) ?_
  obtain ⟨h1, e, hf⟩ := ob hf
  refine q_putI e B hw fd_12_0.1 fd_12_0.2.1 fd_12_0.2.2.1 fd_12_0.2.2.2.1 fd_12_0.2.2.2.2 rfl rfl (tyX12_ok 0 (by decide)) tyX12 tyX12_ok nmX12 tw_6_43 dX12_best_2 (fun H locs hw => ?_)
  refine lv_aload_n hx hb dX12_best_5 rfl (lv_at hl 0 rfl) ?_
  refine lv_iload_n hx hb dX12_best_6 rfl (lv_at hl 1 rfl) ?_
  refine lv_i2l (v := (Int32.toInt64 v1)) hx hb dX12_best_7 rfl ?_
  obtain ⟨x2, e, hf⟩ := ob hf
  refine q_callV (As := [.long (Int32.toInt64 v1)]) (rest := []) (st1 := [.int x2]) (c_X12_isPerson G e) B hw hz hc0 (k_X12_isPerson e) (by decide) (ci := 12) rfl rfl my_X12_isPerson mv_X12_isPerson tw_7_35 ⟨Nat.le_of_ble_eq_true rfl, Nat.le_of_ble_eq_true rfl⟩ ⟨Nat.zero_le _, Nat.zero_le _⟩ rfl hl.1 rfl rfl (Nat.le_of_ble_eq_true rfl) dX12_best_8 (fun H locs hw => ?_)
  refine lv_if_ne (tgt := 17) hx hb dX12_best_11 (by decide) (fun c3 => ?_) (fun c3 => ?_)
  · have hf := (if_neg c3).symm.trans hf
    refine lv_aload_n hx hb dX12_best_17 rfl (lv_at hl 0 rfl) ?_
    refine lv_iload_n hx hb dX12_best_18 rfl (lv_at hl 1 rfl) ?_
    obtain ⟨h4, e, hf⟩ := ob hf
    refine q_callV (As := [.int v1]) (rest := []) (st1 := []) (c_X12_begins G e) B hw hz hc0 (k_X12_begins e) (by decide) (ci := 12) rfl rfl my_X12_begins mv_X12_begins tw_7_233 ⟨Nat.le_of_ble_eq_true rfl, Nat.le_of_ble_eq_true rfl⟩ ⟨Nat.zero_le _, Nat.zero_le _⟩ rfl hl.1 rfl rfl (Nat.le_of_ble_eq_true rfl) dX12_best_19 (fun H locs hw => ?_)
    refine lv_aload_n hx hb dX12_best_22 rfl (lv_at hl 0 rfl) ?_
    refine lv_aload_n hx hb dX12_best_23 rfl (lv_at hl 0 rfl) ?_
    refine lv_iload_n hx hb dX12_best_24 rfl (lv_at hl 1 rfl) ?_
    obtain ⟨x5, e, hf⟩ := ob hf
    refine q_callV (As := [.int v1]) (rest := [.ref v0]) (st1 := [.int x5, .ref v0]) (c_X12_standNow G e) B hw hz hc0 (k_X12_standNow e) (by decide) (ci := 12) rfl rfl my_X12_standNow mv_X12_standNow tw_7_48 ⟨Nat.le_of_ble_eq_true rfl, Nat.le_of_ble_eq_true rfl⟩ ⟨Nat.zero_le _, Nat.zero_le _⟩ rfl hl.1 rfl rfl (Nat.le_of_ble_eq_true rfl) dX12_best_25 (fun H locs hw => ?_)
    obtain ⟨h6, e, hf⟩ := ob hf
    refine q_callV (As := [.int x5]) (rest := []) (st1 := []) (c_X12_laysBest G e) B hw hz hc0 (k_X12_laysBest e) (by decide) (ci := 12) rfl rfl my_X12_laysBest mv_X12_laysBest tw_7_237 ⟨Nat.le_of_ble_eq_true rfl, Nat.le_of_ble_eq_true rfl⟩ ⟨Nat.zero_le _, Nat.zero_le _⟩ rfl hl.1 rfl rfl (Nat.le_of_ble_eq_true rfl) dX12_best_28 (fun H locs hw => ?_)
    refine lv_aload_n hx hb dX12_best_31 rfl (lv_at hl 0 rfl) ?_
    obtain ⟨a7, e, hf⟩ := ob hf
    refine q_getR e B hw fd_12_21.1 fd_12_21.2.1 fd_12_21.2.2.1 fd_12_21.2.2.2.1 fd_12_21.2.2.2.2 rfl tw_6_64 dX12_best_32 ?_
    refine lv_aload_n hx hb dX12_best_35 rfl (lv_at hl 0 rfl) ?_
    refine lv_iload_n hx hb dX12_best_36 rfl (lv_at hl 1 rfl) ?_
    obtain ⟨x8, e, hf⟩ := ob hf
    refine q_callV (As := [.int v1]) (rest := [.ref a7]) (st1 := [.int x8, .ref a7]) (c_X12_standNow G e) B hw hz hc0 (k_X12_standNow e) (by decide) (ci := 12) rfl rfl my_X12_standNow mv_X12_standNow tw_7_48 ⟨Nat.le_of_ble_eq_true rfl, Nat.le_of_ble_eq_true rfl⟩ ⟨Nat.zero_le _, Nat.zero_le _⟩ rfl hl.1 rfl rfl (Nat.le_of_ble_eq_true rfl) dX12_best_37 (fun H locs hw => ?_)
    obtain ⟨x9, e, hf⟩ := ob hf
    refine q_ldI e B hw dX12_best_40 ?_
    obtain ⟨rfl, rfl⟩ := so2 hf
    exact q_iret B hw hz hc0 hr hlk dX12_best_41
  · have hf := (if_pos c3).symm.trans hf
    refine lv_ldc hx hb B.2.2.2.1 (B.w tw_7_39 rfl) dX12_best_14 ?_
    obtain ⟨rfl, rfl⟩ := so2 hf
    exact q_iret B hw hz hc0 hr hlk dX12_best_16
