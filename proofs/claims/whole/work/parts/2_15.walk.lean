/-! SecondLifeModel.count(I)I -/
def f_X12_count (n : Nat) (z : Sh) (h : Hp) (v0 : Nat) (v1 : Int32) : Option (Int32 × Hp) :=
  if z.K v0 = 12 then
    (pI z h 12 v0 0 0).bind fun h1 =>
    if v1 = 0 then
      (gR z h1 12 v0 1).bind fun a2 =>
      (ldI z h1 a2 1).bind fun x3 =>
      some (x3, h1)
    else
      if v1 = 1 then
        (gR z h1 12 v0 1).bind fun a4 =>
        (ldI z h1 a4 2).bind fun x5 =>
        some (x5, h1)
      else
        if v1 = 2 then
          (gR z h1 12 v0 1).bind fun a6 =>
          (ldI z h1 a6 3).bind fun x7 =>
          some (x7, h1)
        else
          if v1 = 3 then
            (gR z h1 12 v0 1).bind fun a8 =>
            (ldI z h1 a8 17).bind fun x9 =>
            some (x9, h1)
          else
            if v1 = 4 then
              (f_X12_hasAll n z h1 v0).bind fun x10 =>
              some (x10, h1)
            else
              if v1 = 5 then
                (f_X12_inSecond n z h1 v0).bind fun x11 =>
                some (x11, h1)
              else
                if v1 = 6 then
                  (f_X12_pledgedSet n z h1 v0).bind fun x12 =>
                  some (x12, h1)
                else
                  if v1 = 7 then
                    (gR z h1 12 v0 1).bind fun a13 =>
                    (ldI z h1 a13 66).bind fun x14 =>
                    some (x14, h1)
                  else
                    if v1 = 8 then
                      (gI z h1 12 v0 5).bind fun x15 =>
                      some (x15, h1)
                    else
                      if v1 = 9 then
                        (gR z h1 12 v0 1).bind fun a16 =>
                        (ldI z h1 a16 0).bind fun x17 =>
                        some (x17, h1)
                      else
                        some (((-1) : Int32), h1)
  else none
theorem k_X12_count {n : Nat} {z : Sh} {h : Hp} {v0 : Nat} {v1 : Int32} {w : Int32 × Hp} (hf : f_X12_count n z h v0 v1 = some w) : z.K v0 = 12 := by
  unfold f_X12_count at hf
  exact (if_some hf).1
set_option maxHeartbeats 4000000 in
theorem c_X12_count {l : Launch} {s0 : State} {E : Ev} (G : Gl s0 E) {n : Nat} {z : Sh} {h : Hp} {v0 : Nat} {v1 : Int32} {r : Int32} {h' : Hp} (hf : f_X12_count n z h v0 v1 = some (r, h')) : Ct l s0 E yX12_count cX12_count 2 (some .int) 1 22 [.ref v0, .int v1] z h h' (some (.int r)) := by
  refine Ct.of G (by decide) (Nat.le_of_ble_eq_true rfl) ?_
  intro p e s m below meth c ls B hw hz hc0 hr hlk hl
  have B : Bd p s0 s E m c cX12_count 2 RX12 := B
  have hx := B.1
  have hb := B.2.1
  have hl : lv_has ls 2 [(0, .ref v0), (1, .int v1)] := hl
  unfold f_X12_count at hf
  obtain ⟨_, hf⟩ := if_some hf
  refine lv_aload_n hx hb dX12_count_0 rfl (lv_at hl 0 rfl) ?_
  refine lv_iconst (v := 0) hx hb dX12_count_1 (by decide) ?_
  obtain ⟨h1, e, hf⟩ := ob hf
  refine q_putI e B hw fd_12_0.1 fd_12_0.2.1 fd_12_0.2.2.1 fd_12_0.2.2.2.1 fd_12_0.2.2.2.2 rfl rfl (tyX12_ok 0 (by decide)) tyX12 tyX12_ok nmX12 tw_6_43 dX12_count_2 (fun H locs hw => ?_)
  refine lv_iload_n hx hb dX12_count_5 rfl (lv_at hl 1 rfl) ?_
  by_cases c6_0 : v1 = 0
  · have hf := (if_pos c6_0).symm.trans hf
    refine lv_tableIn (off := 54) (tgt := 60) hx hb dX12_count_6 (by rw [c6_0]; decide) (by rw [c6_0]; decide) (by rw [c6_0]; rfl) (by decide) ?_
    refine lv_aload_n hx hb dX12_count_60 rfl (lv_at hl 0 rfl) ?_
    obtain ⟨a2, e, hf⟩ := ob hf
    refine q_getR e B hw fd_12_1.1 fd_12_1.2.1 fd_12_1.2.2.1 fd_12_1.2.2.2.1 fd_12_1.2.2.2.2 rfl tw_6_44 dX12_count_61 ?_
    refine lv_iconst (v := 1) hx hb dX12_count_64 (by decide) ?_
    obtain ⟨x3, e, hf⟩ := ob hf
    refine q_ldI e B hw dX12_count_65 ?_
    obtain ⟨rfl, rfl⟩ := so2 hf
    exact q_iret B hw hz hc0 hr hlk dX12_count_66
  have hf := (if_neg c6_0).symm.trans hf
  by_cases c6_1 : v1 = 1
  · have hf := (if_pos c6_1).symm.trans hf
    refine lv_tableIn (off := 61) (tgt := 67) hx hb dX12_count_6 (by rw [c6_1]; decide) (by rw [c6_1]; decide) (by rw [c6_1]; rfl) (by decide) ?_
    refine lv_aload_n hx hb dX12_count_67 rfl (lv_at hl 0 rfl) ?_
    obtain ⟨a4, e, hf⟩ := ob hf
    refine q_getR e B hw fd_12_1.1 fd_12_1.2.1 fd_12_1.2.2.1 fd_12_1.2.2.2.1 fd_12_1.2.2.2.2 rfl tw_6_44 dX12_count_68 ?_
    refine lv_iconst (v := 2) hx hb dX12_count_71 (by decide) ?_
    obtain ⟨x5, e, hf⟩ := ob hf
    refine q_ldI e B hw dX12_count_72 ?_
    obtain ⟨rfl, rfl⟩ := so2 hf
    exact q_iret B hw hz hc0 hr hlk dX12_count_73
  have hf := (if_neg c6_1).symm.trans hf
  by_cases c6_2 : v1 = 2
  · have hf := (if_pos c6_2).symm.trans hf
    refine lv_tableIn (off := 68) (tgt := 74) hx hb dX12_count_6 (by rw [c6_2]; decide) (by rw [c6_2]; decide) (by rw [c6_2]; rfl) (by decide) ?_
    refine lv_aload_n hx hb dX12_count_74 rfl (lv_at hl 0 rfl) ?_
    obtain ⟨a6, e, hf⟩ := ob hf
    refine q_getR e B hw fd_12_1.1 fd_12_1.2.1 fd_12_1.2.2.1 fd_12_1.2.2.2.1 fd_12_1.2.2.2.2 rfl tw_6_44 dX12_count_75 ?_
    refine lv_iconst (v := 3) hx hb dX12_count_78 (by decide) ?_
    obtain ⟨x7, e, hf⟩ := ob hf
    refine q_ldI e B hw dX12_count_79 ?_
    obtain ⟨rfl, rfl⟩ := so2 hf
    exact q_iret B hw hz hc0 hr hlk dX12_count_80
  have hf := (if_neg c6_2).symm.trans hf
  by_cases c6_3 : v1 = 3
  · have hf := (if_pos c6_3).symm.trans hf
    refine lv_tableIn (off := 75) (tgt := 81) hx hb dX12_count_6 (by rw [c6_3]; decide) (by rw [c6_3]; decide) (by rw [c6_3]; rfl) (by decide) ?_
    refine lv_aload_n hx hb dX12_count_81 rfl (lv_at hl 0 rfl) ?_
    obtain ⟨a8, e, hf⟩ := ob hf
    refine q_getR e B hw fd_12_1.1 fd_12_1.2.1 fd_12_1.2.2.1 fd_12_1.2.2.2.1 fd_12_1.2.2.2.2 rfl tw_6_44 dX12_count_82 ?_
    refine lv_bipush (v := 17) hx hb dX12_count_85 (by decide) ?_
    obtain ⟨x9, e, hf⟩ := ob hf
    refine q_ldI e B hw dX12_count_87 ?_
    obtain ⟨rfl, rfl⟩ := so2 hf
    exact q_iret B hw hz hc0 hr hlk dX12_count_88
  have hf := (if_neg c6_3).symm.trans hf
  by_cases c6_4 : v1 = 4
  · have hf := (if_pos c6_4).symm.trans hf
    refine lv_tableIn (off := 83) (tgt := 89) hx hb dX12_count_6 (by rw [c6_4]; decide) (by rw [c6_4]; decide) (by rw [c6_4]; rfl) (by decide) ?_
    refine lv_aload_n hx hb dX12_count_89 rfl (lv_at hl 0 rfl) ?_
    obtain ⟨x10, e, hf⟩ := ob hf
    refine q_callV (As := []) (rest := []) (st1 := [.int x10]) (c_X12_hasAll G e) B hw hz hc0 (k_X12_hasAll e) (by decide) (ci := 12) rfl rfl my_X12_hasAll mv_X12_hasAll tw_7_199 ⟨Nat.le_of_ble_eq_true rfl, Nat.le_of_ble_eq_true rfl⟩ ⟨Nat.zero_le _, Nat.zero_le _⟩ rfl hl.1 rfl rfl (Nat.le_of_ble_eq_true rfl) dX12_count_90 (fun H locs hw => ?_)
    obtain ⟨rfl, rfl⟩ := so2 hf
    exact q_iret B hw hz hc0 hr hlk dX12_count_93
  have hf := (if_neg c6_4).symm.trans hf
  by_cases c6_5 : v1 = 5
  · have hf := (if_pos c6_5).symm.trans hf
    refine lv_tableIn (off := 88) (tgt := 94) hx hb dX12_count_6 (by rw [c6_5]; decide) (by rw [c6_5]; decide) (by rw [c6_5]; rfl) (by decide) ?_
    refine lv_aload_n hx hb dX12_count_94 rfl (lv_at hl 0 rfl) ?_
    obtain ⟨x11, e, hf⟩ := ob hf
    refine q_callV (As := []) (rest := []) (st1 := [.int x11]) (c_X12_inSecond G e) B hw hz hc0 (k_X12_inSecond e) (by decide) (ci := 12) rfl rfl my_X12_inSecond mv_X12_inSecond tw_7_203 ⟨Nat.le_of_ble_eq_true rfl, Nat.le_of_ble_eq_true rfl⟩ ⟨Nat.zero_le _, Nat.zero_le _⟩ rfl hl.1 rfl rfl (Nat.le_of_ble_eq_true rfl) dX12_count_95 (fun H locs hw => ?_)
    obtain ⟨rfl, rfl⟩ := so2 hf
    exact q_iret B hw hz hc0 hr hlk dX12_count_98
  have hf := (if_neg c6_5).symm.trans hf
  by_cases c6_6 : v1 = 6
  · have hf := (if_pos c6_6).symm.trans hf
    refine lv_tableIn (off := 93) (tgt := 99) hx hb dX12_count_6 (by rw [c6_6]; decide) (by rw [c6_6]; decide) (by rw [c6_6]; rfl) (by decide) ?_
    refine lv_aload_n hx hb dX12_count_99 rfl (lv_at hl 0 rfl) ?_
    obtain ⟨x12, e, hf⟩ := ob hf
    refine q_callV (As := []) (rest := []) (st1 := [.int x12]) (c_X12_pledgedSet G e) B hw hz hc0 (k_X12_pledgedSet e) (by decide) (ci := 12) rfl rfl my_X12_pledgedSet mv_X12_pledgedSet tw_8_206 ⟨Nat.le_of_ble_eq_true rfl, Nat.le_of_ble_eq_true rfl⟩ ⟨Nat.zero_le _, Nat.zero_le _⟩ rfl hl.1 rfl rfl (Nat.le_of_ble_eq_true rfl) dX12_count_100 (fun H locs hw => ?_)
    obtain ⟨rfl, rfl⟩ := so2 hf
    exact q_iret B hw hz hc0 hr hlk dX12_count_103
  have hf := (if_neg c6_6).symm.trans hf
  by_cases c6_7 : v1 = 7
  · have hf := (if_pos c6_7).symm.trans hf
    refine lv_tableIn (off := 98) (tgt := 104) hx hb dX12_count_6 (by rw [c6_7]; decide) (by rw [c6_7]; decide) (by rw [c6_7]; rfl) (by decide) ?_
    refine lv_aload_n hx hb dX12_count_104 rfl (lv_at hl 0 rfl) ?_
    obtain ⟨a13, e, hf⟩ := ob hf
    refine q_getR e B hw fd_12_1.1 fd_12_1.2.1 fd_12_1.2.2.1 fd_12_1.2.2.2.1 fd_12_1.2.2.2.2 rfl tw_6_44 dX12_count_105 ?_
    refine lv_bipush (v := 66) hx hb dX12_count_108 (by decide) ?_
    obtain ⟨x14, e, hf⟩ := ob hf
    refine q_ldI e B hw dX12_count_110 ?_
    obtain ⟨rfl, rfl⟩ := so2 hf
    exact q_iret B hw hz hc0 hr hlk dX12_count_111
  have hf := (if_neg c6_7).symm.trans hf
  by_cases c6_8 : v1 = 8
  · have hf := (if_pos c6_8).symm.trans hf
    refine lv_tableIn (off := 106) (tgt := 112) hx hb dX12_count_6 (by rw [c6_8]; decide) (by rw [c6_8]; decide) (by rw [c6_8]; rfl) (by decide) ?_
    refine lv_aload_n hx hb dX12_count_112 rfl (lv_at hl 0 rfl) ?_
    obtain ⟨x15, e, hf⟩ := ob hf
    refine q_getI e B hw fd_12_5.1 fd_12_5.2.1 fd_12_5.2.2.1 fd_12_5.2.2.2.1 fd_12_5.2.2.2.2 rfl tw_6_48 dX12_count_113 ?_
    obtain ⟨rfl, rfl⟩ := so2 hf
    exact q_iret B hw hz hc0 hr hlk dX12_count_116
  have hf := (if_neg c6_8).symm.trans hf
  by_cases c6_9 : v1 = 9
  · have hf := (if_pos c6_9).symm.trans hf
    refine lv_tableIn (off := 111) (tgt := 117) hx hb dX12_count_6 (by rw [c6_9]; decide) (by rw [c6_9]; decide) (by rw [c6_9]; rfl) (by decide) ?_
    refine lv_aload_n hx hb dX12_count_117 rfl (lv_at hl 0 rfl) ?_
    obtain ⟨a16, e, hf⟩ := ob hf
    refine q_getR e B hw fd_12_1.1 fd_12_1.2.1 fd_12_1.2.2.1 fd_12_1.2.2.2.1 fd_12_1.2.2.2.2 rfl tw_6_44 dX12_count_118 ?_
    refine lv_iconst (v := 0) hx hb dX12_count_121 (by decide) ?_
    obtain ⟨x17, e, hf⟩ := ob hf
    refine q_ldI e B hw dX12_count_122 ?_
    obtain ⟨rfl, rfl⟩ := so2 hf
    exact q_iret B hw hz hc0 hr hlk dX12_count_123
  have hf := (if_neg c6_9).symm.trans hf
  refine lv_tableOut (tgt := 124) hx hb dX12_count_6 (sw_out (fun k h1 h2 => ?_)) (by decide) ?_
  · rcases (show k = (0) ∨ k = (1) ∨ k = (2) ∨ k = (3) ∨ k = (4) ∨ k = (5) ∨ k = (6) ∨ k = (7) ∨ k = (8) ∨ k = (9) by omega) with rfl | rfl | rfl | rfl | rfl | rfl | rfl | rfl | rfl | rfl
    · exact fun q => c6_0 (Int32.toInt_inj.mp q)
    · exact fun q => c6_1 (Int32.toInt_inj.mp q)
    · exact fun q => c6_2 (Int32.toInt_inj.mp q)
    · exact fun q => c6_3 (Int32.toInt_inj.mp q)
    · exact fun q => c6_4 (Int32.toInt_inj.mp q)
    · exact fun q => c6_5 (Int32.toInt_inj.mp q)
    · exact fun q => c6_6 (Int32.toInt_inj.mp q)
    · exact fun q => c6_7 (Int32.toInt_inj.mp q)
    · exact fun q => c6_8 (Int32.toInt_inj.mp q)
    · exact fun q => c6_9 (Int32.toInt_inj.mp q)
  refine lv_iconst (v := (-1)) hx hb dX12_count_124 (by decide) ?_
  obtain ⟨rfl, rfl⟩ := so2 hf
  exact q_iret B hw hz hc0 hr hlk dX12_count_125
/-! SecondLife$Chances.tens(I)J -/
def f_X0_tens (z : Sh) (h : Hp) (v0 : Int32) : Option (Int64) :=
  if v0 < 0 then
    some (0 : Int64)
  else
    (aL z (z.st 2)).bind fun x2 =>
    if x2 ≤ v0 then
      some (0 : Int64)
    else
      (ldJ z h (z.st 2) v0).bind fun x4 =>
      some x4
set_option maxHeartbeats 4000000 in
theorem c_X0_tens {l : Launch} {s0 : State} {E : Ev} (G : Gl s0 E) {z : Sh} {h : Hp} {v0 : Int32} {r : Int64} (hf : f_X0_tens z h v0 = some r) : Ct l s0 E yX0_tens cX0_tens 1 (some .long) 0 0 [.int v0] z h h (some (.long r)) := by
  refine Ct.of G (by decide) (Nat.le_of_ble_eq_true rfl) ?_
  intro p e s m below meth c ls B hw hz hc0 hr hlk hl
  have B : Bd p s0 s E m c cX0_tens 1 RX0 := B
  have hx := B.1
  have hb := B.2.1
  have hl : lv_has ls 1 [(0, .int v0)] := hl
  unfold f_X0_tens at hf
  refine lv_iload_n hx hb dX0_tens_0 rfl (lv_at hl 0 rfl) ?_
  refine lv_if_lt (tgt := 20) hx hb dX0_tens_1 (by decide) (fun c1 => ?_) (fun c1 => ?_)
  · have hf := (if_pos c1).symm.trans hf
    refine lv_lconst (v := 0) hx hb dX0_tens_20 (by decide) ?_
    obtain rfl := so hf
    exact q_lret B hw hz hc0 hr hlk dX0_tens_21
  · have hf := (if_neg c1).symm.trans hf
    refine lv_iload_n hx hb dX0_tens_4 rfl (lv_at hl 0 rfl) ?_
    refine q_gsR (k := 2) G.2.2.2.2.1 B hw rfl tw_5_67 dX0_tens_5 ?_
    obtain ⟨x2, e, hf⟩ := ob hf
    refine q_len e B hw dX0_tens_8 ?_
    refine lv_icmp_ge (tgt := 20) hx hb dX0_tens_9 (by decide) (fun c3 => ?_) (fun c3 => ?_)
    · have hf := (if_pos c3).symm.trans hf
      refine lv_lconst (v := 0) hx hb dX0_tens_20 (by decide) ?_
      obtain rfl := so hf
      exact q_lret B hw hz hc0 hr hlk dX0_tens_21
    · have hf := (if_neg c3).symm.trans hf
      refine q_gsR (k := 2) G.2.2.2.2.1 B hw rfl tw_5_67 dX0_tens_12 ?_
      refine lv_iload_n hx hb dX0_tens_15 rfl (lv_at hl 0 rfl) ?_
      obtain ⟨x4, e, hf⟩ := ob hf
      refine q_ldJ e B hw dX0_tens_16 ?_
      refine lv_goto (tgt := 21) hx hb dX0_tens_17 (by decide) ?_
      obtain rfl := so hf
      exact q_lret B hw hz hc0 hr hlk dX0_tens_21
/-! SecondLife$Chances.commonDivisor(JJ)J -/
def f_X0_commonDivisor_9 (n : Nat) (z : Sh) (h : Hp) : Nat → Int64 → Int64 → Int32 → Option (Int64)
  | 0, _, _, _ => none
  | i + 1, v4, v6, v8 =>
    if 130 ≤ v8 then
      some v4
    else
      if (lg_cmp v6 0) = 0 then
        some v4
      else
        (rmJ v4 v6).bind fun x3 =>
        (some (v8 + 1)).bind fun x4 =>
        (f_X0_commonDivisor_9 n z h i) v6 x3 x4
def f_X0_commonDivisor (n : Nat) (z : Sh) (h : Hp) (v0 : Int64) (v2 : Int64) : Option (Int64) :=
  f_X0_commonDivisor_9 n z h n v0 v2 0
set_option maxHeartbeats 4000000 in
theorem w_X0_commonDivisor_9 {p : Program} {l : Launch} {e : Env} {s : State} {m : MethodId} {args : Array Value} {below : List Frame} {meth : Method} {c : Code} {s0 : State} {E : Ev} {z : Sh} {h : Hp} {n : Nat} {r : Int64} (G : Gl s0 E) (B : Bd p s0 s E m c cX0_commonDivisor 11 RX0) (hz : s0.heap.size ≤ z.sz) (hc0 : s.heap.size + 0 = z.sz) (hr : meth.sig.returnType = (some .long)) (hlk : meth.locks = false) : ∀ (i : Nat), ∀ (v4 : Int64) (v6 : Int64) (v8 : Int32) (H : Heap) (locs : List Loc) (ls : Array Slot), Pw s0 s E z h H locs → lv_has ls 11 [(4, .long v4), (6, .long v6), (8, .int v8)] → f_X0_commonDivisor_9 n z h i v4 v6 v8 = some r → W p l e (rmO 0 0) s m args below meth c H locs 0 0 (Zt below s0 E z h (some (.long r)) args s 0 0) (F0 m 9 ls []) := by
  have hx := B.1
  have hb := B.2.1
  intro i
  induction i with
  | zero =>
    intro v4 v6 v8 H locs ls hw hl hf
    have hf := (f_X0_commonDivisor_9.eq_1 ..).symm.trans hf
    cases hf
  | succ i ih =>
    intro v4 v6 v8 H locs ls hw hl hf
    have hf := (f_X0_commonDivisor_9.eq_2 ..).symm.trans hf
    refine lv_iload hx hb dX0_commonDivisor_9 (lv_at hl 2 rfl) ?_
    refine lv_sipush (v := 130) hx hb dX0_commonDivisor_11 (by decide) ?_
    refine lv_icmp_ge (tgt := 45) hx hb dX0_commonDivisor_14 (by decide) (fun c1 => ?_) (fun c1 => ?_)
    · have hf := (if_pos c1).symm.trans hf
      refine lv_lload hx hb dX0_commonDivisor_45 (lv_at hl 0 rfl) ?_
      obtain rfl := so hf
      exact q_lret B hw hz hc0 hr hlk dX0_commonDivisor_47
    · have hf := (if_neg c1).symm.trans hf
      refine lv_lload hx hb dX0_commonDivisor_17 (lv_at hl 1 rfl) ?_
      refine lv_lconst (v := 0) hx hb dX0_commonDivisor_19 (by decide) ?_
      refine W.lcmp hx hb dX0_commonDivisor_20 ?_
      refine lv_if_eq (tgt := 45) hx hb dX0_commonDivisor_21 (by decide) (fun c2 => ?_) (fun c2 => ?_)
      · have hf := (if_pos c2).symm.trans hf
        refine lv_lload hx hb dX0_commonDivisor_45 (lv_at hl 0 rfl) ?_
        obtain rfl := so hf
        exact q_lret B hw hz hc0 hr hlk dX0_commonDivisor_47
      · have hf := (if_neg c2).symm.trans hf
        refine lv_lload hx hb dX0_commonDivisor_24 (lv_at hl 0 rfl) ?_
        refine lv_lload hx hb dX0_commonDivisor_26 (lv_at hl 1 rfl) ?_
        obtain ⟨x3, e, hf⟩ := ob hf
        refine q_lrem e hx hb dX0_commonDivisor_28 ?_
        refine lv_lstore (lv' := [(9, .long x3), (4, .long v4), (6, .long v6), (8, .int v8)]) hx hb dX0_commonDivisor_29 hl (by decide) rfl (fun ls hl => ?_)
        refine lv_lload hx hb dX0_commonDivisor_31 (lv_at hl 2 rfl) ?_
        refine lv_lstore (lv' := [(4, .long v6), (9, .long x3), (6, .long v6), (8, .int v8)]) hx hb dX0_commonDivisor_33 hl (by decide) rfl (fun ls hl => ?_)
        refine lv_lload hx hb dX0_commonDivisor_35 (lv_at hl 1 rfl) ?_
        refine lv_lstore (lv' := [(6, .long x3), (4, .long v6), (9, .long x3), (8, .int v8)]) hx hb dX0_commonDivisor_37 hl (by decide) rfl (fun ls hl => ?_)
        obtain ⟨x4, e, hf⟩ := ob hf
        refine lv_iinc (v := x4) (lv' := [(8, .int x4), (6, .long x3), (4, .long v6), (9, .long x3)]) hx hb dX0_commonDivisor_39 hl (k := 3) rfl (Option.some.inj e) (by decide) rfl (fun ls hl => ?_)
        refine lv_goto (tgt := 9) hx hb dX0_commonDivisor_42 (by decide) ?_
        exact ih v6 x3 x4 _ _ _ hw (lv_sub hl [2, 1, 0] rfl) hf
set_option maxHeartbeats 4000000 in
theorem c_X0_commonDivisor {l : Launch} {s0 : State} {E : Ev} (G : Gl s0 E) {n : Nat} {z : Sh} {h : Hp} {v0 : Int64} {v2 : Int64} {r : Int64} (hf : f_X0_commonDivisor n z h v0 v2 = some r) : Ct l s0 E yX0_commonDivisor cX0_commonDivisor 11 (some .long) 0 0 [.long v0, .long v2] z h h (some (.long r)) := by
  refine Ct.of G (by decide) (Nat.le_of_ble_eq_true rfl) ?_
  intro p e s m below meth c ls B hw hz hc0 hr hlk hl
  have B : Bd p s0 s E m c cX0_commonDivisor 11 RX0 := B
  have hx := B.1
  have hb := B.2.1
  have hl : lv_has ls 11 [(0, .long v0), (2, .long v2)] := hl
  unfold f_X0_commonDivisor at hf
  refine lv_lload_n hx hb dX0_commonDivisor_0 rfl (lv_at hl 0 rfl) ?_
  refine lv_lstore (lv' := [(4, .long v0), (0, .long v0), (2, .long v2)]) hx hb dX0_commonDivisor_1 hl (by decide) rfl (fun ls hl => ?_)
  refine lv_lload_n hx hb dX0_commonDivisor_3 rfl (lv_at hl 2 rfl) ?_
  refine lv_lstore (lv' := [(6, .long v2), (4, .long v0), (0, .long v0), (2, .long v2)]) hx hb dX0_commonDivisor_4 hl (by decide) rfl (fun ls hl => ?_)
  refine lv_iconst (v := 0) hx hb dX0_commonDivisor_6 (by decide) ?_
  refine lv_istore (lv' := [(8, .int 0), (6, .long v2), (4, .long v0), (0, .long v0), (2, .long v2)]) hx hb dX0_commonDivisor_7 hl (by decide) rfl (fun ls hl => ?_)
  exact w_X0_commonDivisor_9 G B hz hc0 hr hlk  n v0 v2 0 _ _ _ hw (lv_sub hl [2, 1, 0] rfl) hf
/-! SecondLife$Courses.scoreIn(J)I -/
def f_X1_scoreIn (z : Sh) (h : Hp) (v0 : Int64) : Option (Int32) :=
  (dvJ v0 16).bind fun x1 =>
  some (Int64.toInt32 x1)
set_option maxHeartbeats 4000000 in
theorem c_X1_scoreIn {l : Launch} {s0 : State} {E : Ev} (G : Gl s0 E) {z : Sh} {h : Hp} {v0 : Int64} {r : Int32} (hf : f_X1_scoreIn z h v0 = some r) : Ct l s0 E yX1_scoreIn cX1_scoreIn 2 (some .int) 0 0 [.long v0] z h h (some (.int r)) := by
  refine Ct.of G (by decide) (Nat.le_of_ble_eq_true rfl) ?_
  intro p e s m below meth c ls B hw hz hc0 hr hlk hl
  have B : Bd p s0 s E m c cX1_scoreIn 2 RX1 := B
  have hx := B.1
  have hb := B.2.1
  have hl : lv_has ls 2 [(0, .long v0)] := hl
  unfold f_X1_scoreIn at hf
  refine lv_lload_n hx hb dX1_scoreIn_0 rfl (lv_at hl 0 rfl) ?_
  refine lv_ldc2 hx hb B.2.2.2.1 (B.w tw_4_199 rfl) dX1_scoreIn_1 ?_
  obtain ⟨x1, e, hf⟩ := ob hf
  refine q_ldiv e hx hb dX1_scoreIn_4 ?_
  refine lv_l2i (v := (Int64.toInt32 x1)) hx hb dX1_scoreIn_5 rfl ?_
  obtain rfl := so hf
  exact q_iret B hw hz hc0 hr hlk dX1_scoreIn_6
/-! SecondLife$Courses.doingIn(J)I -/
def f_X1_doingIn (z : Sh) (h : Hp) (v0 : Int64) : Option (Int32) :=
  (rmJ v0 16).bind fun x1 =>
  some ((Int64.toInt32 x1) - 1)
set_option maxHeartbeats 4000000 in
theorem c_X1_doingIn {l : Launch} {s0 : State} {E : Ev} (G : Gl s0 E) {z : Sh} {h : Hp} {v0 : Int64} {r : Int32} (hf : f_X1_doingIn z h v0 = some r) : Ct l s0 E yX1_doingIn cX1_doingIn 2 (some .int) 0 0 [.long v0] z h h (some (.int r)) := by
  refine Ct.of G (by decide) (Nat.le_of_ble_eq_true rfl) ?_
  intro p e s m below meth c ls B hw hz hc0 hr hlk hl
  have B : Bd p s0 s E m c cX1_doingIn 2 RX1 := B
  have hx := B.1
  have hb := B.2.1
  have hl : lv_has ls 2 [(0, .long v0)] := hl
  unfold f_X1_doingIn at hf
  refine lv_lload_n hx hb dX1_doingIn_0 rfl (lv_at hl 0 rfl) ?_
  refine lv_ldc2 hx hb B.2.2.2.1 (B.w tw_4_199 rfl) dX1_doingIn_1 ?_
  obtain ⟨x1, e, hf⟩ := ob hf
  refine q_lrem e hx hb dX1_doingIn_4 ?_
  refine lv_l2i (v := (Int64.toInt32 x1)) hx hb dX1_doingIn_5 rfl ?_
  refine lv_iconst (v := 1) hx hb dX1_doingIn_6 (by decide) ?_
  refine lv_isub hx hb dX1_doingIn_7 ?_
  obtain rfl := so hf
  exact q_iret B hw hz hc0 hr hlk dX1_doingIn_8
/-! SecondLife$Courses.choicesIn(I)J -/
def f_X1_choicesIn_5 (n : Nat) (z : Sh) (h : Hp) : Nat → Nat → Int32 → Int64 → Int32 → Option (Int64)
  | 0, _, _, _, _ => none
  | i + 1, v0, v1, v2, v4 =>
    if v1 ≤ v4 then
      some v2
    else
      (gR z h 1 v0 0).bind fun a2 =>
      (gR z h 10 a2 3).bind fun a3 =>
      (gI z h 8 a3 1).bind fun x4 =>
      (some (v2 * (Int32.toInt64 x4))).bind fun x5 =>
      (some (v4 + 1)).bind fun x6 =>
      (f_X1_choicesIn_5 n z h i) v0 v1 x5 x6
def f_X1_choicesIn (n : Nat) (z : Sh) (h : Hp) (v0 : Nat) (v1 : Int32) : Option (Int64) :=
  if z.K v0 = 1 then
    f_X1_choicesIn_5 n z h n v0 v1 1 0
  else none
theorem k_X1_choicesIn {n : Nat} {z : Sh} {h : Hp} {v0 : Nat} {v1 : Int32} {w : Int64} (hf : f_X1_choicesIn n z h v0 v1 = some w) : z.K v0 = 1 := by
  unfold f_X1_choicesIn at hf
  exact (if_some hf).1
set_option maxHeartbeats 4000000 in
theorem w_X1_choicesIn_5 {p : Program} {l : Launch} {e : Env} {s : State} {m : MethodId} {args : Array Value} {below : List Frame} {meth : Method} {c : Code} {s0 : State} {E : Ev} {z : Sh} {h : Hp} {n : Nat} {r : Int64} (G : Gl s0 E) (B : Bd p s0 s E m c cX1_choicesIn 5 RX1) (hz : s0.heap.size ≤ z.sz) (hc0 : s.heap.size + 0 = z.sz) (hr : meth.sig.returnType = (some .long)) (hlk : meth.locks = false) : ∀ (i : Nat), ∀ (v0 : Nat) (v1 : Int32) (v2 : Int64) (v4 : Int32) (H : Heap) (locs : List Loc) (ls : Array Slot), Pw s0 s E z h H locs → lv_has ls 5 [(0, .ref v0), (1, .int v1), (2, .long v2), (4, .int v4)] → f_X1_choicesIn_5 n z h i v0 v1 v2 v4 = some r → W p l e (rmO 0 0) s m args below meth c H locs 0 0 (Zt below s0 E z h (some (.long r)) args s 0 0) (F0 m 5 ls []) := by
  have hx := B.1
  have hb := B.2.1
  intro i
  induction i with
  | zero =>
    intro v0 v1 v2 v4 H locs ls hw hl hf
    have hf := (f_X1_choicesIn_5.eq_1 ..).symm.trans hf
    cases hf
  | succ i ih =>
    intro v0 v1 v2 v4 H locs ls hw hl hf
    have hf := (f_X1_choicesIn_5.eq_2 ..).symm.trans hf
    refine lv_iload hx hb dX1_choicesIn_5 (lv_at hl 3 rfl) ?_
    refine lv_iload_n hx hb dX1_choicesIn_7 rfl (lv_at hl 1 rfl) ?_
    refine lv_icmp_ge (tgt := 31) hx hb dX1_choicesIn_8 (by decide) (fun c1 => ?_) (fun c1 => ?_)
    · have hf := (if_pos c1).symm.trans hf
      refine lv_lload_n hx hb dX1_choicesIn_31 rfl (lv_at hl 2 rfl) ?_
      obtain rfl := so hf
      exact q_lret B hw hz hc0 hr hlk dX1_choicesIn_32
    · have hf := (if_neg c1).symm.trans hf
      refine lv_lload_n hx hb dX1_choicesIn_11 rfl (lv_at hl 2 rfl) ?_
      refine lv_aload_n hx hb dX1_choicesIn_12 rfl (lv_at hl 0 rfl) ?_
      obtain ⟨a2, e, hf⟩ := ob hf
      refine q_getR e B hw fd_1_0.1 fd_1_0.2.1 fd_1_0.2.2.1 fd_1_0.2.2.2.1 fd_1_0.2.2.2.2 rfl tw_2_43 dX1_choicesIn_13 ?_
      obtain ⟨a3, e, hf⟩ := ob hf
      refine q_getRN e B hw fd_10_3.1 fd_10_3.2.1 fd_10_3.2.2.1 fd_10_3.2.2.2.1 fd_10_3.2.2.2.2 rfl tw_1_232 dX1_choicesIn_16 ?_
      obtain ⟨x4, e, hf⟩ := ob hf
      refine q_getIN e B hw fd_8_1.1 fd_8_1.2.1 fd_8_1.2.2.1 fd_8_1.2.2.2.1 fd_8_1.2.2.2.2 rfl tw_1_58 dX1_choicesIn_19 ?_
      refine lv_i2l (v := (Int32.toInt64 x4)) hx hb dX1_choicesIn_22 rfl ?_
      refine lv_lmul hx hb dX1_choicesIn_23 ?_
      obtain ⟨x5, e, hf⟩ := ob hf
      refine q_nmJ e ?_
      refine lv_lstore_n (lv' := [(2, .long x5), (0, .ref v0), (1, .int v1), (4, .int v4)]) hx hb dX1_choicesIn_24 rfl hl (by decide) rfl (fun ls hl => ?_)
      obtain ⟨x6, e, hf⟩ := ob hf
      refine lv_iinc (v := x6) (lv' := [(4, .int x6), (2, .long x5), (0, .ref v0), (1, .int v1)]) hx hb dX1_choicesIn_25 hl (k := 3) rfl (Option.some.inj e) (by decide) rfl (fun ls hl => ?_)
      refine lv_goto (tgt := 5) hx hb dX1_choicesIn_28 (by decide) ?_
      exact ih v0 v1 x5 x6 _ _ _ hw (lv_sub hl [2, 3, 1, 0] rfl) hf
set_option maxHeartbeats 4000000 in
theorem c_X1_choicesIn {l : Launch} {s0 : State} {E : Ev} (G : Gl s0 E) {n : Nat} {z : Sh} {h : Hp} {v0 : Nat} {v1 : Int32} {r : Int64} (hf : f_X1_choicesIn n z h v0 v1 = some r) : Ct l s0 E yX1_choicesIn cX1_choicesIn 5 (some .long) 0 0 [.ref v0, .int v1] z h h (some (.long r)) := by
  refine Ct.of G (by decide) (Nat.le_of_ble_eq_true rfl) ?_
  intro p e s m below meth c ls B hw hz hc0 hr hlk hl
  have B : Bd p s0 s E m c cX1_choicesIn 5 RX1 := B
  have hx := B.1
  have hb := B.2.1
  have hl : lv_has ls 5 [(0, .ref v0), (1, .int v1)] := hl
  unfold f_X1_choicesIn at hf
  obtain ⟨_, hf⟩ := if_some hf
  refine lv_lconst (v := 1) hx hb dX1_choicesIn_0 (by decide) ?_
  refine lv_lstore_n (lv' := [(2, .long 1), (0, .ref v0), (1, .int v1)]) hx hb dX1_choicesIn_1 rfl hl (by decide) rfl (fun ls hl => ?_)
  refine lv_iconst (v := 0) hx hb dX1_choicesIn_2 (by decide) ?_
  refine lv_istore (lv' := [(4, .int 0), (2, .long 1), (0, .ref v0), (1, .int v1)]) hx hb dX1_choicesIn_3 hl (by decide) rfl (fun ls hl => ?_)
  exact w_X1_choicesIn_5 G B hz hc0 hr hlk  n v0 v1 1 0 _ _ _ hw (lv_sub hl [2, 3, 1, 0] rfl) hf
/-! SecondLife$Deeds.<init>(LSecondLife$Reckoner;)V -/
def f_X2_init (z : Sh) (h : Hp) (v0 : Nat) (v1 : Nat) : Option (Hp × Sh) :=
  if z.K v0 = 2 then
    gd2 z <|
    (pI z h 2 v0 1 0).bind fun h1 =>
    (pI z h1 2 v0 2 0).bind fun h2 =>
    (pR z h2 2 v0 0 (some v1)).bind fun h3 =>
    some (h3, z)
  else none
theorem k_X2_init {z : Sh} {h : Hp} {v0 : Nat} {v1 : Nat} {w : Hp × Sh} (hf : f_X2_init z h v0 v1 = some w) : z.K v0 = 2 := by
  unfold f_X2_init at hf
  exact (if_some hf).1
theorem mo_X2_init {z : Sh} {h : Hp} {v0 : Nat} {v1 : Nat} {h' : Hp} {zE : Sh} (hf : f_X2_init z h v0 v1 = some (h', zE)) : z.sz ≤ zE.sz ∧ z.sl ≤ zE.sl := by
  unfold f_X2_init at hf
  exact (gd2_some (if_some hf).2).1
set_option maxHeartbeats 4000000 in
theorem c_X2_init {l : Launch} {s0 : State} {E : Ev} (G : Gl s0 E) {z : Sh} {h : Hp} {v0 : Nat} {v1 : Nat} {h' : Hp} {zE : Sh} (hf : f_X2_init z h v0 v1 = some (h', zE)) : Ca l s0 E yX2_init cX2_init 2 none 1 24 [.ref v0, .ref v1] z zE h h' (none) := by
  refine Ca.of G (by decide +kernel) (Nat.le_of_ble_eq_true rfl) (mo_X2_init hf) ?_
  intro p e s m below meth c ls B hw hM hr hlk hnm0 hl
  have B : Bd p s0 s E m c cX2_init 2 RX2 := B
  have hx := B.1
  have hb := B.2.1
  have hl : lv_has ls 2 [(0, .ref v0), (1, .ref v1)] := hl
  have hin : meth.name = "<init>" := hnm0
  unfold f_X2_init at hf
  obtain ⟨_, hf⟩ := if_some hf
  obtain ⟨_, hf⟩ := gd2_some hf
  refine lv_aload_n hx hb dX2_init_0 rfl (lv_at hl 0 rfl) ?_
  refine q_obj B hl.1 tw_1_205 tw_1_29 tw_1_30 (Nat.le_of_ble_eq_true rfl) (Nat.le_of_ble_eq_true rfl) dX2_init_1 ?_
  refine lv_aload_n hx hb dX2_init_4 rfl (lv_at hl 0 rfl) ?_
  refine lv_iconst (v := 0) hx hb dX2_init_5 (by decide) ?_
  obtain ⟨h1, e, hf⟩ := ob hf
  refine q_putI e B hw fd_2_1.1 fd_2_1.2.1 fd_2_1.2.2.1 fd_2_1.2.2.2.1 fd_2_1.2.2.2.2 rfl rfl (tyX2_ok 1 (by decide)) tyX2 tyX2_ok nmX2 tw_1_207 dX2_init_6 (fun H locs hw => ?_)
  refine lv_aload_n hx hb dX2_init_9 rfl (lv_at hl 0 rfl) ?_
  refine lv_iconst (v := 0) hx hb dX2_init_10 (by decide) ?_
  obtain ⟨h2, e, hf⟩ := ob hf
  refine q_putI e B hw fd_2_2.1 fd_2_2.2.1 fd_2_2.2.2.1 fd_2_2.2.2.2.1 fd_2_2.2.2.2.2 rfl rfl (tyX2_ok 2 (by decide)) tyX2 tyX2_ok nmX2 tw_1_209 dX2_init_11 (fun H locs hw => ?_)
  refine lv_aload_n hx hb dX2_init_14 rfl (lv_at hl 0 rfl) ?_
  refine lv_aload_n hx hb dX2_init_15 rfl (lv_at hl 1 rfl) ?_
  obtain ⟨h3, e, hf⟩ := ob hf
  refine q_putRF e B hw hin fd_2_0.1 fd_2_0.2.1 fd_2_0.2.2.1 fd_2_0.2.2.2.1 fd_2_0.2.2.2.2 rfl rfl rfl (tyX2_ok 0 (by decide)) (Or.inl ⟨_, rfl⟩) tyX2 tyX2_ok nmX2 tw_1_206 dX2_init_16 (fun H locs hw => ?_)
  obtain ⟨rfl, rfl⟩ := so2 hf
  exact q_vret B hw hM.hz hM.hc0 hr hlk dX2_init_19
/-! SecondLife$Deeds.nextDrawn()I -/
def f_X2_nextDrawn (z : Sh) (h : Hp) (v0 : Nat) : Option (Int32 × Hp) :=
  if z.K v0 = 2 then
    (gI z h 2 v0 2).bind fun x1 =>
    (pI z h 2 v0 2 ((1103515245 * x1) + 12345)).bind fun h2 =>
    (gI z h2 2 v0 2).bind fun x3 =>
    some (((Int32.toUInt32 x3 >>> (Int32.toUInt32 16 &&& Int32.toUInt32 31)).toInt32), h2)
  else none
theorem k_X2_nextDrawn {z : Sh} {h : Hp} {v0 : Nat} {w : Int32 × Hp} (hf : f_X2_nextDrawn z h v0 = some w) : z.K v0 = 2 := by
  unfold f_X2_nextDrawn at hf
  exact (if_some hf).1
set_option maxHeartbeats 4000000 in
theorem c_X2_nextDrawn {l : Launch} {s0 : State} {E : Ev} (G : Gl s0 E) {z : Sh} {h : Hp} {v0 : Nat} {r : Int32} {h' : Hp} (hf : f_X2_nextDrawn z h v0 = some (r, h')) : Ct l s0 E yX2_nextDrawn cX2_nextDrawn 1 (some .int) 0 0 [.ref v0] z h h' (some (.int r)) := by
  refine Ct.of G (by decide) (Nat.le_of_ble_eq_true rfl) ?_
  intro p e s m below meth c ls B hw hz hc0 hr hlk hl
  have B : Bd p s0 s E m c cX2_nextDrawn 1 RX2 := B
  have hx := B.1
  have hb := B.2.1
  have hl : lv_has ls 1 [(0, .ref v0)] := hl
  unfold f_X2_nextDrawn at hf
  obtain ⟨_, hf⟩ := if_some hf
  refine lv_aload_n hx hb dX2_nextDrawn_0 rfl (lv_at hl 0 rfl) ?_
  refine lv_ldc hx hb B.2.2.2.1 (B.w tw_4_148 rfl) dX2_nextDrawn_1 ?_
  refine lv_aload_n hx hb dX2_nextDrawn_3 rfl (lv_at hl 0 rfl) ?_
  obtain ⟨x1, e, hf⟩ := ob hf
  refine q_getI e B hw fd_2_2.1 fd_2_2.2.1 fd_2_2.2.2.1 fd_2_2.2.2.2.1 fd_2_2.2.2.2.2 rfl tw_1_209 dX2_nextDrawn_4 ?_
  refine lv_imul hx hb dX2_nextDrawn_7 ?_
  refine lv_sipush (v := 12345) hx hb dX2_nextDrawn_8 (by decide) ?_
  refine lv_iadd hx hb dX2_nextDrawn_11 ?_
  obtain ⟨h2, e, hf⟩ := ob hf
  refine q_putI e B hw fd_2_2.1 fd_2_2.2.1 fd_2_2.2.2.1 fd_2_2.2.2.2.1 fd_2_2.2.2.2.2 rfl rfl (tyX2_ok 2 (by decide)) tyX2 tyX2_ok nmX2 tw_1_209 dX2_nextDrawn_12 (fun H locs hw => ?_)
  refine lv_aload_n hx hb dX2_nextDrawn_15 rfl (lv_at hl 0 rfl) ?_
  obtain ⟨x3, e, hf⟩ := ob hf
  refine q_getI e B hw fd_2_2.1 fd_2_2.2.1 fd_2_2.2.2.1 fd_2_2.2.2.2.1 fd_2_2.2.2.2.2 rfl tw_1_209 dX2_nextDrawn_16 ?_
  refine lv_bipush (v := 16) hx hb dX2_nextDrawn_19 (by decide) ?_
  refine lv_iushr (v := (Int32.toUInt32 x3 >>> (Int32.toUInt32 16 &&& Int32.toUInt32 31)).toInt32) hx hb dX2_nextDrawn_21 rfl ?_
  obtain ⟨rfl, rfl⟩ := so2 hf
  exact q_iret B hw hz hc0 hr hlk dX2_nextDrawn_22
/-! SecondLife$Memo.find(II)J -/
def f_X3_find (z : Sh) (h : Hp) (v0 : Nat) (v1 : Int32) (v2 : Int32) : Option (Int64) :=
  if z.K v0 = 3 then
    if v1 < 0 then
      some ((-1) : Int64)
    else
      (gR z h 3 v0 0).bind fun a2 =>
      (aL z a2).bind fun x3 =>
      if v1 < x3 then
        (gR z h 3 v0 0).bind fun a5 =>
        (ldJ z h a5 v1).bind fun x6 =>
        (rmI v2 65536).bind fun x7 =>
        if (lg_cmp ((Int64.toUInt64 x6 >>> ((Int32.toInt64 48).toUInt64 &&& Int64.toUInt64 63)).toInt64) (Int32.toInt64 x7)) = 0 then
          some (x6 &&& 281474976710655)
        else
          some ((-1) : Int64)
      else
        some ((-1) : Int64)
  else none
theorem k_X3_find {z : Sh} {h : Hp} {v0 : Nat} {v1 : Int32} {v2 : Int32} {w : Int64} (hf : f_X3_find z h v0 v1 v2 = some w) : z.K v0 = 3 := by
  unfold f_X3_find at hf
  exact (if_some hf).1
set_option maxHeartbeats 4000000 in
theorem c_X3_find {l : Launch} {s0 : State} {E : Ev} (G : Gl s0 E) {z : Sh} {h : Hp} {v0 : Nat} {v1 : Int32} {v2 : Int32} {r : Int64} (hf : f_X3_find z h v0 v1 v2 = some r) : Ct l s0 E yX3_find cX3_find 5 (some .long) 0 0 [.ref v0, .int v1, .int v2] z h h (some (.long r)) := by
  refine Ct.of G (by decide) (Nat.le_of_ble_eq_true rfl) ?_
  intro p e s m below meth c ls B hw hz hc0 hr hlk hl
  have B : Bd p s0 s E m c cX3_find 5 RX3 := B
  have hx := B.1
  have hb := B.2.1
  have hl : lv_has ls 5 [(0, .ref v0), (1, .int v1), (2, .int v2)] := hl
  unfold f_X3_find at hf
  obtain ⟨_, hf⟩ := if_some hf
  refine lv_iload_n hx hb dX3_find_0 rfl (lv_at hl 1 rfl) ?_
  refine lv_if_lt (tgt := 13) hx hb dX3_find_1 (by decide) (fun c1 => ?_) (fun c1 => ?_)
  · have hf := (if_pos c1).symm.trans hf
    refine lv_ldc2 hx hb B.2.2.2.1 (B.w tw_4_174 rfl) dX3_find_13 ?_
    obtain rfl := so hf
    exact q_lret B hw hz hc0 hr hlk dX3_find_16
  · have hf := (if_neg c1).symm.trans hf
    refine lv_iload_n hx hb dX3_find_4 rfl (lv_at hl 1 rfl) ?_
    refine lv_aload_n hx hb dX3_find_5 rfl (lv_at hl 0 rfl) ?_
    obtain ⟨a2, e, hf⟩ := ob hf
    refine q_getR e B hw fd_3_0.1 fd_3_0.2.1 fd_3_0.2.2.1 fd_3_0.2.2.2.1 fd_3_0.2.2.2.2 rfl tw_2_38 dX3_find_6 ?_
    obtain ⟨x3, e, hf⟩ := ob hf
    refine q_len e B hw dX3_find_9 ?_
    refine lv_icmp_lt (tgt := 17) hx hb dX3_find_10 (by decide) (fun c4 => ?_) (fun c4 => ?_)
    · have hf := (if_pos c4).symm.trans hf
      refine lv_aload_n hx hb dX3_find_17 rfl (lv_at hl 0 rfl) ?_
      obtain ⟨a5, e, hf⟩ := ob hf
      refine q_getR e B hw fd_3_0.1 fd_3_0.2.1 fd_3_0.2.2.1 fd_3_0.2.2.2.1 fd_3_0.2.2.2.2 rfl tw_2_38 dX3_find_18 ?_
      refine lv_iload_n hx hb dX3_find_21 rfl (lv_at hl 1 rfl) ?_
      obtain ⟨x6, e, hf⟩ := ob hf
      refine q_ldJ e B hw dX3_find_22 ?_
      refine lv_lstore_n (lv' := [(3, .long x6), (0, .ref v0), (1, .int v1), (2, .int v2)]) hx hb dX3_find_23 rfl hl (by decide) rfl (fun ls hl => ?_)
      refine lv_lload_n hx hb dX3_find_24 rfl (lv_at hl 0 rfl) ?_
      refine lv_bipush (v := 48) hx hb dX3_find_25 (by decide) ?_
      refine lv_lushr (v := ((Int64.toUInt64 x6 >>> ((Int32.toInt64 48).toUInt64 &&& Int64.toUInt64 63)).toInt64)) hx hb dX3_find_27 rfl ?_
      refine lv_iload_n hx hb dX3_find_28 rfl (lv_at hl 3 rfl) ?_
      refine lv_ldc hx hb B.2.2.2.1 (B.w tw_4_175 rfl) dX3_find_29 ?_
      obtain ⟨x7, e, hf⟩ := ob hf
      refine q_irem e hx hb dX3_find_31 ?_
      refine lv_i2l (v := (Int32.toInt64 x7)) hx hb dX3_find_32 rfl ?_
      refine W.lcmp hx hb dX3_find_33 ?_
      refine lv_if_ne (tgt := 45) hx hb dX3_find_34 (by decide) (fun c8 => ?_) (fun c8 => ?_)
      · have hf := (if_neg c8).symm.trans hf
        refine lv_ldc2 hx hb B.2.2.2.1 (B.w tw_4_174 rfl) dX3_find_45 ?_
        obtain rfl := so hf
        exact q_lret B hw hz hc0 hr hlk dX3_find_48
      · have hf := (if_pos c8).symm.trans hf
        refine lv_lload_n hx hb dX3_find_37 rfl (lv_at hl 0 rfl) ?_
        refine lv_ldc2 hx hb B.2.2.2.1 (B.w tw_4_176 rfl) dX3_find_38 ?_
        refine lv_land hx hb dX3_find_41 ?_
        refine lv_goto (tgt := 48) hx hb dX3_find_42 (by decide) ?_
        obtain rfl := so hf
        exact q_lret B hw hz hc0 hr hlk dX3_find_48
    · have hf := (if_neg c4).symm.trans hf
      refine lv_ldc2 hx hb B.2.2.2.1 (B.w tw_4_174 rfl) dX3_find_13 ?_
      obtain rfl := so hf
      exact q_lret B hw hz hc0 hr hlk dX3_find_16
/-! SecondLife$Memo.keep(IIJ)V -/
def f_X3_keep (z : Sh) (h : Hp) (v0 : Nat) (v1 : Int32) (v2 : Int32) (v3 : Int64) : Option (Hp) :=
  if z.K v0 = 3 then
    if v1 < 0 then
      some h
    else
      (gR z h 3 v0 0).bind fun a2 =>
      (aL z a2).bind fun x3 =>
      if x3 ≤ v1 then
        some h
      else
        (gR z h 3 v0 0).bind fun a5 =>
        (rmI v2 65536).bind fun x6 =>
        (stJ z h a5 v1 (((Int32.toInt64 x6) <<< (Int32.toInt64 48 &&& 63)) ||| (v3 &&& 281474976710655))).bind fun h7 =>
        some h7
  else none
theorem k_X3_keep {z : Sh} {h : Hp} {v0 : Nat} {v1 : Int32} {v2 : Int32} {v3 : Int64} {w : Hp} (hf : f_X3_keep z h v0 v1 v2 v3 = some w) : z.K v0 = 3 := by
  unfold f_X3_keep at hf
  exact (if_some hf).1
set_option maxHeartbeats 4000000 in
theorem c_X3_keep {l : Launch} {s0 : State} {E : Ev} (G : Gl s0 E) {z : Sh} {h : Hp} {v0 : Nat} {v1 : Int32} {v2 : Int32} {v3 : Int64} {h' : Hp} (hf : f_X3_keep z h v0 v1 v2 v3 = some h') : Ct l s0 E yX3_keep cX3_keep 5 none 0 0 [.ref v0, .int v1, .int v2, .long v3] z h h' (none) := by
  refine Ct.of G (by decide) (Nat.le_of_ble_eq_true rfl) ?_
  intro p e s m below meth c ls B hw hz hc0 hr hlk hl
  have B : Bd p s0 s E m c cX3_keep 5 RX3 := B
  have hx := B.1
  have hb := B.2.1
  have hl : lv_has ls 5 [(0, .ref v0), (1, .int v1), (2, .int v2), (3, .long v3)] := hl
  unfold f_X3_keep at hf
  obtain ⟨_, hf⟩ := if_some hf
  refine lv_iload_n hx hb dX3_keep_0 rfl (lv_at hl 1 rfl) ?_
  refine lv_if_lt (tgt := 33) hx hb dX3_keep_1 (by decide) (fun c1 => ?_) (fun c1 => ?_)
  · have hf := (if_pos c1).symm.trans hf
    obtain rfl := so hf
    exact q_vret B hw hz hc0 hr hlk dX3_keep_33
  · have hf := (if_neg c1).symm.trans hf
    refine lv_iload_n hx hb dX3_keep_4 rfl (lv_at hl 1 rfl) ?_
    refine lv_aload_n hx hb dX3_keep_5 rfl (lv_at hl 0 rfl) ?_
    obtain ⟨a2, e, hf⟩ := ob hf
    refine q_getR e B hw fd_3_0.1 fd_3_0.2.1 fd_3_0.2.2.1 fd_3_0.2.2.2.1 fd_3_0.2.2.2.2 rfl tw_2_38 dX3_keep_6 ?_
    obtain ⟨x3, e, hf⟩ := ob hf
    refine q_len e B hw dX3_keep_9 ?_
    refine lv_icmp_ge (tgt := 33) hx hb dX3_keep_10 (by decide) (fun c4 => ?_) (fun c4 => ?_)
    · have hf := (if_pos c4).symm.trans hf
      obtain rfl := so hf
      exact q_vret B hw hz hc0 hr hlk dX3_keep_33
    · have hf := (if_neg c4).symm.trans hf
      refine lv_aload_n hx hb dX3_keep_13 rfl (lv_at hl 0 rfl) ?_
      obtain ⟨a5, e, hf⟩ := ob hf
      refine q_getR e B hw fd_3_0.1 fd_3_0.2.1 fd_3_0.2.2.1 fd_3_0.2.2.2.1 fd_3_0.2.2.2.2 rfl tw_2_38 dX3_keep_14 ?_
      refine lv_iload_n hx hb dX3_keep_17 rfl (lv_at hl 1 rfl) ?_
      refine lv_iload_n hx hb dX3_keep_18 rfl (lv_at hl 2 rfl) ?_
      refine lv_ldc hx hb B.2.2.2.1 (B.w tw_4_175 rfl) dX3_keep_19 ?_
      obtain ⟨x6, e, hf⟩ := ob hf
      refine q_irem e hx hb dX3_keep_21 ?_
      refine lv_i2l (v := (Int32.toInt64 x6)) hx hb dX3_keep_22 rfl ?_
      refine lv_bipush (v := 48) hx hb dX3_keep_23 (by decide) ?_
      refine lv_lshl (v := ((Int32.toInt64 x6) <<< (Int32.toInt64 48 &&& 63))) hx hb dX3_keep_25 rfl ?_
      refine lv_lload_n hx hb dX3_keep_26 rfl (lv_at hl 3 rfl) ?_
      refine lv_ldc2 hx hb B.2.2.2.1 (B.w tw_4_176 rfl) dX3_keep_27 ?_
      refine lv_land hx hb dX3_keep_30 ?_
      refine lv_lor hx hb dX3_keep_31 ?_
      obtain ⟨h7, e, hf⟩ := ob hf
      refine q_stJ e B hw dX3_keep_32 (fun H locs hw => ?_)
      obtain rfl := so hf
      exact q_vret B hw hz hc0 hr hlk dX3_keep_33
/-! SecondLife$Past.forget()V -/
def f_X4_forget (z : Sh) (h : Hp) (v0 : Nat) : Option (Hp) :=
  if z.K v0 = 4 then
    (pI z h 4 v0 2 0).bind fun h1 =>
    some h1
  else none
theorem k_X4_forget {z : Sh} {h : Hp} {v0 : Nat} {w : Hp} (hf : f_X4_forget z h v0 = some w) : z.K v0 = 4 := by
  unfold f_X4_forget at hf
  exact (if_some hf).1
set_option maxHeartbeats 4000000 in
theorem c_X4_forget {l : Launch} {s0 : State} {E : Ev} (G : Gl s0 E) {z : Sh} {h : Hp} {v0 : Nat} {h' : Hp} (hf : f_X4_forget z h v0 = some h') : Ct l s0 E yX4_forget cX4_forget 1 none 0 0 [.ref v0] z h h' (none) := by
  refine Ct.of G (by decide) (Nat.le_of_ble_eq_true rfl) ?_
  intro p e s m below meth c ls B hw hz hc0 hr hlk hl
  have B : Bd p s0 s E m c cX4_forget 1 RX4 := B
  have hx := B.1
  have hb := B.2.1
  have hl : lv_has ls 1 [(0, .ref v0)] := hl
  unfold f_X4_forget at hf
  obtain ⟨_, hf⟩ := if_some hf
  refine lv_aload_n hx hb dX4_forget_0 rfl (lv_at hl 0 rfl) ?_
  refine lv_iconst (v := 0) hx hb dX4_forget_1 (by decide) ?_
  obtain ⟨h1, e, hf⟩ := ob hf
  refine q_putI e B hw fd_4_2.1 fd_4_2.2.1 fd_4_2.2.2.1 fd_4_2.2.2.2.1 fd_4_2.2.2.2.2 rfl rfl (tyX4_ok 2 (by decide)) tyX4 tyX4_ok nmX4 tw_1_174 dX4_forget_2 (fun H locs hw => ?_)
  obtain rfl := so hf
  exact q_vret B hw hz hc0 hr hlk dX4_forget_5
/-! SecondLife$People.<init>()V -/
def f_X5_init (z : Sh) (h : Hp) (v0 : Nat) : Option (Hp × Sh) :=
  if z.K v0 = 5 then
    gd2 z <|
    (nwA z h 14 54).bind fun (a1, h2, z3) =>
    gd2 z3 <|
    (pR z3 h2 5 v0 0 (some a1)).bind fun h4 =>
    (pI z3 h4 5 v0 1 0).bind fun h5 =>
    (pI z3 h5 5 v0 2 0).bind fun h6 =>
    some (h6, z3)
  else none
theorem k_X5_init {z : Sh} {h : Hp} {v0 : Nat} {w : Hp × Sh} (hf : f_X5_init z h v0 = some w) : z.K v0 = 5 := by
  unfold f_X5_init at hf
  exact (if_some hf).1
theorem mo_X5_init {z : Sh} {h : Hp} {v0 : Nat} {h' : Hp} {zE : Sh} (hf : f_X5_init z h v0 = some (h', zE)) : z.sz ≤ zE.sz ∧ z.sl ≤ zE.sl := by
  unfold f_X5_init at hf
  exact (gd2_some (if_some hf).2).1
set_option maxHeartbeats 4000000 in
theorem c_X5_init {l : Launch} {s0 : State} {E : Ev} (G : Gl s0 E) {z : Sh} {h : Hp} {v0 : Nat} {h' : Hp} {zE : Sh} (hf : f_X5_init z h v0 = some (h', zE)) : Ca l s0 E yX5_init cX5_init 1 none 1 24 [.ref v0] z zE h h' (none) := by
  refine Ca.of G (by decide +kernel) (Nat.le_of_ble_eq_true rfl) (mo_X5_init hf) ?_
  intro p e s m below meth c ls B hw hM hr hlk hnm0 hl
  have B : Bd p s0 s E m c cX5_init 1 RX5 := B
  have hx := B.1
  have hb := B.2.1
  have hl : lv_has ls 1 [(0, .ref v0)] := hl
  have hin : meth.name = "<init>" := hnm0
  unfold f_X5_init at hf
  obtain ⟨_, hf⟩ := if_some hf
  obtain ⟨_, hf⟩ := gd2_some hf
  refine lv_aload_n hx hb dX5_init_0 rfl (lv_at hl 0 rfl) ?_
  refine q_obj B hl.1 tw_1_149 tw_1_29 tw_1_30 (Nat.le_of_ble_eq_true rfl) (Nat.le_of_ble_eq_true rfl) dX5_init_1 ?_
  refine lv_aload_n hx hb dX5_init_4 rfl (lv_at hl 0 rfl) ?_
  refine lv_bipush (v := 54) hx hb dX5_init_5 (by decide) ?_
  obtain ⟨⟨a1, h2, z3⟩, e, hf⟩ := ob hf
  obtain ⟨hg, hf⟩ := gd2_some hf
  refine q_newA (atype := .int) (ty := .int) (t0 := 1) e hg B hw hM (by decide) rfl rfl rfl (cfn_14 E _ _) arn_14 tw_1_102 dX5_init_7 (fun H locs hw hM => ?_)
  obtain ⟨h4, e, hf⟩ := ob hf
  refine q_putRF e B hw hin fd_5_0.1 fd_5_0.2.1 fd_5_0.2.2.1 fd_5_0.2.2.2.1 fd_5_0.2.2.2.2 rfl rfl rfl (tyX5_ok 0 (by decide)) (Or.inr ⟨_, rfl⟩) tyX5 tyX5_ok nmX5 tw_1_150 dX5_init_9 (fun H locs hw => ?_)
  refine lv_aload_n hx hb dX5_init_12 rfl (lv_at hl 0 rfl) ?_
  refine lv_iconst (v := 0) hx hb dX5_init_13 (by decide) ?_
  obtain ⟨h5, e, hf⟩ := ob hf
  refine q_putI e B hw fd_5_1.1 fd_5_1.2.1 fd_5_1.2.2.1 fd_5_1.2.2.2.1 fd_5_1.2.2.2.2 rfl rfl (tyX5_ok 1 (by decide)) tyX5 tyX5_ok nmX5 tw_1_151 dX5_init_14 (fun H locs hw => ?_)
  refine lv_aload_n hx hb dX5_init_17 rfl (lv_at hl 0 rfl) ?_
  refine lv_iconst (v := 0) hx hb dX5_init_18 (by decide) ?_
  obtain ⟨h6, e, hf⟩ := ob hf
  refine q_putI e B hw fd_5_2.1 fd_5_2.2.1 fd_5_2.2.2.1 fd_5_2.2.2.2.1 fd_5_2.2.2.2.2 rfl rfl (tyX5_ok 2 (by decide)) tyX5 tyX5_ok nmX5 tw_1_153 dX5_init_19 (fun H locs hw => ?_)
  obtain ⟨rfl, rfl⟩ := so2 hf
  exact q_vret B hw hM.hz hM.hc0 hr hlk dX5_init_22
/-! SecondLife$People.copy(LSecondLife$People;)V -/
def f_X5_copy (z : Sh) (h : Hp) (v0 : Nat) (v1 : Nat) : Option (Hp) :=
  if z.K v0 = 5 then
    (gR z h 5 v1 0).bind fun a1 =>
    (gR z h 5 v0 0).bind fun a2 =>
    (gR z h 5 v0 0).bind fun a3 =>
    (aL z a3).bind fun x4 =>
    (cpI z h a1 0 a2 0 x4).bind fun h5 =>
    (gI z h5 5 v1 1).bind fun x6 =>
    (pI z h5 5 v0 1 x6).bind fun h7 =>
    (gI z h7 5 v1 2).bind fun x8 =>
    (pI z h7 5 v0 2 x8).bind fun h9 =>
    some h9
  else none
theorem k_X5_copy {z : Sh} {h : Hp} {v0 : Nat} {v1 : Nat} {w : Hp} (hf : f_X5_copy z h v0 v1 = some w) : z.K v0 = 5 := by
  unfold f_X5_copy at hf
  exact (if_some hf).1
set_option maxHeartbeats 4000000 in
theorem c_X5_copy {l : Launch} {s0 : State} {E : Ev} (G : Gl s0 E) {z : Sh} {h : Hp} {v0 : Nat} {v1 : Nat} {h' : Hp} (hf : f_X5_copy z h v0 v1 = some h') : Ct l s0 E yX5_copy cX5_copy 2 none 1 60 [.ref v0, .ref v1] z h h' (none) := by
  refine Ct.of G (by decide) (Nat.le_of_ble_eq_true rfl) ?_
  intro p e s m below meth c ls B hw hz hc0 hr hlk hl
  have B : Bd p s0 s E m c cX5_copy 2 RX5 := B
  have hx := B.1
  have hb := B.2.1
  have hl : lv_has ls 2 [(0, .ref v0), (1, .ref v1)] := hl
  unfold f_X5_copy at hf
  obtain ⟨_, hf⟩ := if_some hf
  refine lv_aload_n hx hb dX5_copy_0 rfl (lv_at hl 1 rfl) ?_
  obtain ⟨a1, e, hf⟩ := ob hf
  refine q_getR e B hw fd_5_0.1 fd_5_0.2.1 fd_5_0.2.2.1 fd_5_0.2.2.2.1 fd_5_0.2.2.2.2 rfl tw_1_150 dX5_copy_1 ?_
  refine lv_iconst (v := 0) hx hb dX5_copy_4 (by decide) ?_
  refine lv_aload_n hx hb dX5_copy_5 rfl (lv_at hl 0 rfl) ?_
  obtain ⟨a2, e, hf⟩ := ob hf
  refine q_getR e B hw fd_5_0.1 fd_5_0.2.1 fd_5_0.2.2.1 fd_5_0.2.2.2.1 fd_5_0.2.2.2.2 rfl tw_1_150 dX5_copy_6 ?_
  refine lv_iconst (v := 0) hx hb dX5_copy_9 (by decide) ?_
  refine lv_aload_n hx hb dX5_copy_10 rfl (lv_at hl 0 rfl) ?_
  obtain ⟨a3, e, hf⟩ := ob hf
  refine q_getR e B hw fd_5_0.1 fd_5_0.2.1 fd_5_0.2.2.1 fd_5_0.2.2.2.1 fd_5_0.2.2.2.2 rfl tw_1_150 dX5_copy_11 ?_
  obtain ⟨x4, e, hf⟩ := ob hf
  refine q_len e B hw dX5_copy_14 ?_
  obtain ⟨h5, e, hf⟩ := ob hf
  refine q_cpI e B hw hl.1 tw_4_29 tw_3_178 tw_3_177 tw_1_21 (Nat.le_of_ble_eq_true rfl) (Nat.le_of_ble_eq_true rfl) dX5_copy_15 (fun H locs hw => ?_)
  refine lv_aload_n hx hb dX5_copy_18 rfl (lv_at hl 0 rfl) ?_
  refine lv_aload_n hx hb dX5_copy_19 rfl (lv_at hl 1 rfl) ?_
  obtain ⟨x6, e, hf⟩ := ob hf
  refine q_getI e B hw fd_5_1.1 fd_5_1.2.1 fd_5_1.2.2.1 fd_5_1.2.2.2.1 fd_5_1.2.2.2.2 rfl tw_1_151 dX5_copy_20 ?_
  obtain ⟨h7, e, hf⟩ := ob hf
  refine q_putI e B hw fd_5_1.1 fd_5_1.2.1 fd_5_1.2.2.1 fd_5_1.2.2.2.1 fd_5_1.2.2.2.2 rfl rfl (tyX5_ok 1 (by decide)) tyX5 tyX5_ok nmX5 tw_1_151 dX5_copy_23 (fun H locs hw => ?_)
  refine lv_aload_n hx hb dX5_copy_26 rfl (lv_at hl 0 rfl) ?_
  refine lv_aload_n hx hb dX5_copy_27 rfl (lv_at hl 1 rfl) ?_
  obtain ⟨x8, e, hf⟩ := ob hf
  refine q_getI e B hw fd_5_2.1 fd_5_2.2.1 fd_5_2.2.2.1 fd_5_2.2.2.2.1 fd_5_2.2.2.2.2 rfl tw_1_153 dX5_copy_28 ?_
  obtain ⟨h9, e, hf⟩ := ob hf
  refine q_putI e B hw fd_5_2.1 fd_5_2.2.1 fd_5_2.2.2.1 fd_5_2.2.2.2.1 fd_5_2.2.2.2.2 rfl rfl (tyX5_ok 2 (by decide)) tyX5 tyX5_ok nmX5 tw_1_153 dX5_copy_31 (fun H locs hw => ?_)
  obtain rfl := so hf
  exact q_vret B hw hz hc0 hr hlk dX5_copy_34
/-! SecondLife$People.has(I)Z -/
def f_X5_has (z : Sh) (h : Hp) (v0 : Nat) (v1 : Int32) : Option (Int32) :=
  if z.K v0 = 5 then
    if v1 < 0 then
      some 0
    else
      (gI z h 5 v0 1).bind fun x2 =>
      if x2 ≤ v1 then
        some 0
      else
        some 1
  else none
theorem k_X5_has {z : Sh} {h : Hp} {v0 : Nat} {v1 : Int32} {w : Int32} (hf : f_X5_has z h v0 v1 = some w) : z.K v0 = 5 := by
  unfold f_X5_has at hf
  exact (if_some hf).1
set_option maxHeartbeats 4000000 in
theorem c_X5_has {l : Launch} {s0 : State} {E : Ev} (G : Gl s0 E) {z : Sh} {h : Hp} {v0 : Nat} {v1 : Int32} {r : Int32} (hf : f_X5_has z h v0 v1 = some r) : Ct l s0 E yX5_has cX5_has 2 (some .boolean) 0 0 [.ref v0, .int v1] z h h (some (.int r)) := by
  refine Ct.of G (by decide) (Nat.le_of_ble_eq_true rfl) ?_
  intro p e s m below meth c ls B hw hz hc0 hr hlk hl
  have B : Bd p s0 s E m c cX5_has 2 RX5 := B
  have hx := B.1
  have hb := B.2.1
  have hl : lv_has ls 2 [(0, .ref v0), (1, .int v1)] := hl
  unfold f_X5_has at hf
  obtain ⟨_, hf⟩ := if_some hf
  refine lv_iload_n hx hb dX5_has_0 rfl (lv_at hl 1 rfl) ?_
  refine lv_if_lt (tgt := 16) hx hb dX5_has_1 (by decide) (fun c1 => ?_) (fun c1 => ?_)
  · have hf := (if_pos c1).symm.trans hf
    refine lv_iconst (v := 0) hx hb dX5_has_16 (by decide) ?_
    obtain rfl := so hf
    exact q_zret (Or.inl rfl) B hw hz hc0 hr hlk dX5_has_17
  · have hf := (if_neg c1).symm.trans hf
    refine lv_iload_n hx hb dX5_has_4 rfl (lv_at hl 1 rfl) ?_
    refine lv_aload_n hx hb dX5_has_5 rfl (lv_at hl 0 rfl) ?_
    obtain ⟨x2, e, hf⟩ := ob hf
    refine q_getI e B hw fd_5_1.1 fd_5_1.2.1 fd_5_1.2.2.1 fd_5_1.2.2.2.1 fd_5_1.2.2.2.2 rfl tw_1_151 dX5_has_6 ?_
    refine lv_icmp_ge (tgt := 16) hx hb dX5_has_9 (by decide) (fun c3 => ?_) (fun c3 => ?_)
    · have hf := (if_pos c3).symm.trans hf
      refine lv_iconst (v := 0) hx hb dX5_has_16 (by decide) ?_
      obtain rfl := so hf
      exact q_zret (Or.inl rfl) B hw hz hc0 hr hlk dX5_has_17
    · have hf := (if_neg c3).symm.trans hf
      refine lv_iconst (v := 1) hx hb dX5_has_12 (by decide) ?_
      refine lv_goto (tgt := 17) hx hb dX5_has_13 (by decide) ?_
      obtain rfl := so hf
      exact q_zret (Or.inr rfl) B hw hz hc0 hr hlk dX5_has_17
/-! SecondLife$People.part(II)I -/
def f_X5_part (z : Sh) (h : Hp) (v0 : Nat) (v1 : Int32) (v2 : Int32) : Option (Int32) :=
  if z.K v0 = 5 then
    (some ((v1 * 9) + v2)).bind fun x1 =>
    if x1 < 0 then
      some (0 : Int32)
    else
      (gR z h 5 v0 0).bind fun a3 =>
      (aL z a3).bind fun x4 =>
      if x4 ≤ x1 then
        some (0 : Int32)
      else
        (gR z h 5 v0 0).bind fun a6 =>
        (ldI z h a6 x1).bind fun x7 =>
        some x7
  else none
theorem k_X5_part {z : Sh} {h : Hp} {v0 : Nat} {v1 : Int32} {v2 : Int32} {w : Int32} (hf : f_X5_part z h v0 v1 v2 = some w) : z.K v0 = 5 := by
  unfold f_X5_part at hf
  exact (if_some hf).1
set_option maxHeartbeats 4000000 in
theorem c_X5_part {l : Launch} {s0 : State} {E : Ev} (G : Gl s0 E) {z : Sh} {h : Hp} {v0 : Nat} {v1 : Int32} {v2 : Int32} {r : Int32} (hf : f_X5_part z h v0 v1 v2 = some r) : Ct l s0 E yX5_part cX5_part 4 (some .int) 0 0 [.ref v0, .int v1, .int v2] z h h (some (.int r)) := by
  refine Ct.of G (by decide) (Nat.le_of_ble_eq_true rfl) ?_
  intro p e s m below meth c ls B hw hz hc0 hr hlk hl
  have B : Bd p s0 s E m c cX5_part 4 RX5 := B
  have hx := B.1
  have hb := B.2.1
  have hl : lv_has ls 4 [(0, .ref v0), (1, .int v1), (2, .int v2)] := hl
  unfold f_X5_part at hf
  obtain ⟨_, hf⟩ := if_some hf
  refine lv_iload_n hx hb dX5_part_0 rfl (lv_at hl 1 rfl) ?_
  refine lv_bipush (v := 9) hx hb dX5_part_1 (by decide) ?_
  refine lv_imul hx hb dX5_part_3 ?_
  refine lv_iload_n hx hb dX5_part_4 rfl (lv_at hl 2 rfl) ?_
  refine lv_iadd hx hb dX5_part_5 ?_
  obtain ⟨x1, e, hf⟩ := ob hf
  refine q_nmI e ?_
  refine lv_istore_n (lv' := [(3, .int x1), (0, .ref v0), (1, .int v1), (2, .int v2)]) hx hb dX5_part_6 rfl hl (by decide) rfl (fun ls hl => ?_)
  refine lv_iload_n hx hb dX5_part_7 rfl (lv_at hl 0 rfl) ?_
  refine lv_if_lt (tgt := 29) hx hb dX5_part_8 (by decide) (fun c2 => ?_) (fun c2 => ?_)
  · have hf := (if_pos c2).symm.trans hf
    refine lv_iconst (v := 0) hx hb dX5_part_29 (by decide) ?_
    obtain rfl := so hf
    exact q_iret B hw hz hc0 hr hlk dX5_part_30
  · have hf := (if_neg c2).symm.trans hf
    refine lv_iload_n hx hb dX5_part_11 rfl (lv_at hl 0 rfl) ?_
    refine lv_aload_n hx hb dX5_part_12 rfl (lv_at hl 1 rfl) ?_
    obtain ⟨a3, e, hf⟩ := ob hf
    refine q_getR e B hw fd_5_0.1 fd_5_0.2.1 fd_5_0.2.2.1 fd_5_0.2.2.2.1 fd_5_0.2.2.2.2 rfl tw_1_150 dX5_part_13 ?_
    obtain ⟨x4, e, hf⟩ := ob hf
    refine q_len e B hw dX5_part_16 ?_
    refine lv_icmp_ge (tgt := 29) hx hb dX5_part_17 (by decide) (fun c5 => ?_) (fun c5 => ?_)
    · have hf := (if_pos c5).symm.trans hf
      refine lv_iconst (v := 0) hx hb dX5_part_29 (by decide) ?_
      obtain rfl := so hf
      exact q_iret B hw hz hc0 hr hlk dX5_part_30
    · have hf := (if_neg c5).symm.trans hf
      refine lv_aload_n hx hb dX5_part_20 rfl (lv_at hl 1 rfl) ?_
      obtain ⟨a6, e, hf⟩ := ob hf
      refine q_getR e B hw fd_5_0.1 fd_5_0.2.1 fd_5_0.2.2.1 fd_5_0.2.2.2.1 fd_5_0.2.2.2.2 rfl tw_1_150 dX5_part_21 ?_
      refine lv_iload_n hx hb dX5_part_24 rfl (lv_at hl 0 rfl) ?_
      obtain ⟨x7, e, hf⟩ := ob hf
      refine q_ldI e B hw dX5_part_25 ?_
      refine lv_goto (tgt := 30) hx hb dX5_part_26 (by decide) ?_
      obtain rfl := so hf
      exact q_iret B hw hz hc0 hr hlk dX5_part_30
/-! SecondLife$People.put(III)V -/
def f_X5_put (z : Sh) (h : Hp) (v0 : Nat) (v1 : Int32) (v2 : Int32) (v3 : Int32) : Option (Hp) :=
  if z.K v0 = 5 then
    (some ((v1 * 9) + v2)).bind fun x1 =>
    if x1 < 0 then
      some h
    else
      (gR z h 5 v0 0).bind fun a3 =>
      (aL z a3).bind fun x4 =>
      if x4 ≤ x1 then
        some h
      else
        (gR z h 5 v0 0).bind fun a6 =>
        (stI z h a6 x1 v3).bind fun h7 =>
        some h7
  else none
theorem k_X5_put {z : Sh} {h : Hp} {v0 : Nat} {v1 : Int32} {v2 : Int32} {v3 : Int32} {w : Hp} (hf : f_X5_put z h v0 v1 v2 v3 = some w) : z.K v0 = 5 := by
  unfold f_X5_put at hf
  exact (if_some hf).1
set_option maxHeartbeats 4000000 in
theorem c_X5_put {l : Launch} {s0 : State} {E : Ev} (G : Gl s0 E) {z : Sh} {h : Hp} {v0 : Nat} {v1 : Int32} {v2 : Int32} {v3 : Int32} {h' : Hp} (hf : f_X5_put z h v0 v1 v2 v3 = some h') : Ct l s0 E yX5_put cX5_put 5 none 0 0 [.ref v0, .int v1, .int v2, .int v3] z h h' (none) := by
  refine Ct.of G (by decide) (Nat.le_of_ble_eq_true rfl) ?_
  intro p e s m below meth c ls B hw hz hc0 hr hlk hl
  have B : Bd p s0 s E m c cX5_put 5 RX5 := B
  have hx := B.1
  have hb := B.2.1
  have hl : lv_has ls 5 [(0, .ref v0), (1, .int v1), (2, .int v2), (3, .int v3)] := hl
  unfold f_X5_put at hf
  obtain ⟨_, hf⟩ := if_some hf
  refine lv_iload_n hx hb dX5_put_0 rfl (lv_at hl 1 rfl) ?_
  refine lv_bipush (v := 9) hx hb dX5_put_1 (by decide) ?_
  refine lv_imul hx hb dX5_put_3 ?_
  refine lv_iload_n hx hb dX5_put_4 rfl (lv_at hl 2 rfl) ?_
  refine lv_iadd hx hb dX5_put_5 ?_
  obtain ⟨x1, e, hf⟩ := ob hf
  refine q_nmI e ?_
  refine lv_istore (lv' := [(4, .int x1), (0, .ref v0), (1, .int v1), (2, .int v2), (3, .int v3)]) hx hb dX5_put_6 hl (by decide) rfl (fun ls hl => ?_)
  refine lv_iload hx hb dX5_put_8 (lv_at hl 0 rfl) ?_
  refine lv_if_lt (tgt := 31) hx hb dX5_put_10 (by decide) (fun c2 => ?_) (fun c2 => ?_)
  · have hf := (if_pos c2).symm.trans hf
    obtain rfl := so hf
    exact q_vret B hw hz hc0 hr hlk dX5_put_31
  · have hf := (if_neg c2).symm.trans hf
    refine lv_iload hx hb dX5_put_13 (lv_at hl 0 rfl) ?_
    refine lv_aload_n hx hb dX5_put_15 rfl (lv_at hl 1 rfl) ?_
    obtain ⟨a3, e, hf⟩ := ob hf
    refine q_getR e B hw fd_5_0.1 fd_5_0.2.1 fd_5_0.2.2.1 fd_5_0.2.2.2.1 fd_5_0.2.2.2.2 rfl tw_1_150 dX5_put_16 ?_
    obtain ⟨x4, e, hf⟩ := ob hf
    refine q_len e B hw dX5_put_19 ?_
    refine lv_icmp_ge (tgt := 31) hx hb dX5_put_20 (by decide) (fun c5 => ?_) (fun c5 => ?_)
    · have hf := (if_pos c5).symm.trans hf
      obtain rfl := so hf
      exact q_vret B hw hz hc0 hr hlk dX5_put_31
    · have hf := (if_neg c5).symm.trans hf
      refine lv_aload_n hx hb dX5_put_23 rfl (lv_at hl 1 rfl) ?_
      obtain ⟨a6, e, hf⟩ := ob hf
      refine q_getR e B hw fd_5_0.1 fd_5_0.2.1 fd_5_0.2.2.1 fd_5_0.2.2.2.1 fd_5_0.2.2.2.2 rfl tw_1_150 dX5_put_24 ?_
      refine lv_iload hx hb dX5_put_27 (lv_at hl 0 rfl) ?_
      refine lv_iload_n hx hb dX5_put_29 rfl (lv_at hl 4 rfl) ?_
      obtain ⟨h7, e, hf⟩ := ob hf
      refine q_stI e B hw dX5_put_30 (fun H locs hw => ?_)
      obtain rfl := so hf
      exact q_vret B hw hz hc0 hr hlk dX5_put_31
/-! SecondLife$People.wealth()I -/
def f_X5_wealth_4 (n : Nat) (z : Sh) (h : Hp) : Nat → Nat → Int32 → Int32 → Option (Int32)
  | 0, _, _, _ => none
  | i + 1, v0, v1, v2 =>
    (gI z h 5 v0 1).bind fun x1 =>
    if x1 ≤ v2 then
      some v1
    else
      (f_X5_part z h v0 v2 2).bind fun x3 =>
      (some (v1 + x3)).bind fun x4 =>
      (some (v2 + 1)).bind fun x5 =>
      (f_X5_wealth_4 n z h i) v0 x4 x5
def f_X5_wealth (n : Nat) (z : Sh) (h : Hp) (v0 : Nat) : Option (Int32) :=
  if z.K v0 = 5 then
    f_X5_wealth_4 n z h n v0 0 0
  else none
theorem k_X5_wealth {n : Nat} {z : Sh} {h : Hp} {v0 : Nat} {w : Int32} (hf : f_X5_wealth n z h v0 = some w) : z.K v0 = 5 := by
  unfold f_X5_wealth at hf
  exact (if_some hf).1
set_option maxHeartbeats 4000000 in
theorem w_X5_wealth_4 {p : Program} {l : Launch} {e : Env} {s : State} {m : MethodId} {args : Array Value} {below : List Frame} {meth : Method} {c : Code} {s0 : State} {E : Ev} {z : Sh} {h : Hp} {n : Nat} {r : Int32} (G : Gl s0 E) (B : Bd p s0 s E m c cX5_wealth 3 RX5) (hz : s0.heap.size ≤ z.sz) (hc0 : s.heap.size + 0 = z.sz) (hr : meth.sig.returnType = (some .int)) (hlk : meth.locks = false) : ∀ (i : Nat), ∀ (v0 : Nat) (v1 : Int32) (v2 : Int32) (H : Heap) (locs : List Loc) (ls : Array Slot), Pw s0 s E z h H locs → lv_has ls 3 [(0, .ref v0), (1, .int v1), (2, .int v2)] → f_X5_wealth_4 n z h i v0 v1 v2 = some r → W p l e (rmO 1 23) s m args below meth c H locs 0 0 (Zt below s0 E z h (some (.int r)) args s 0 0) (F0 m 4 ls []) := by
  have hx := B.1
  have hb := B.2.1
  intro i
  induction i with
  | zero =>
    intro v0 v1 v2 H locs ls hw hl hf
    have hf := (f_X5_wealth_4.eq_1 ..).symm.trans hf
    cases hf
  | succ i ih =>
    intro v0 v1 v2 H locs ls hw hl hf
    have hf := (f_X5_wealth_4.eq_2 ..).symm.trans hf
    refine lv_iload_n hx hb dX5_wealth_4 rfl (lv_at hl 2 rfl) ?_
    refine lv_aload_n hx hb dX5_wealth_5 rfl (lv_at hl 0 rfl) ?_
    obtain ⟨x1, e, hf⟩ := ob hf
    refine q_getI e B hw fd_5_1.1 fd_5_1.2.1 fd_5_1.2.2.1 fd_5_1.2.2.2.1 fd_5_1.2.2.2.2 rfl tw_1_151 dX5_wealth_6 ?_
    refine lv_icmp_ge (tgt := 27) hx hb dX5_wealth_9 (by decide) (fun c2 => ?_) (fun c2 => ?_)
    · have hf := (if_pos c2).symm.trans hf
      refine lv_iload_n hx hb dX5_wealth_27 rfl (lv_at hl 1 rfl) ?_
      obtain rfl := so hf
      exact q_iret B hw hz hc0 hr hlk dX5_wealth_28
    · have hf := (if_neg c2).symm.trans hf
      refine lv_iload_n hx hb dX5_wealth_12 rfl (lv_at hl 1 rfl) ?_
      refine lv_aload_n hx hb dX5_wealth_13 rfl (lv_at hl 0 rfl) ?_
      refine lv_iload_n hx hb dX5_wealth_14 rfl (lv_at hl 2 rfl) ?_
      refine lv_iconst (v := 2) hx hb dX5_wealth_15 (by decide) ?_
      obtain ⟨x3, e, hf⟩ := ob hf
      refine q_callV (As := [.int v2, .int 2]) (rest := [.int v1]) (st1 := [.int x3, .int v1]) (c_X5_part G e) B hw hz hc0 (k_X5_part e) (by decide) (ci := 5) rfl rfl my_X5_part mv_X5_part tw_4_123 ⟨Nat.le_of_ble_eq_true rfl, Nat.le_of_ble_eq_true rfl⟩ ⟨Nat.zero_le _, Nat.zero_le _⟩ rfl hl.1 rfl rfl (Nat.le_of_ble_eq_true rfl) dX5_wealth_16 (fun H locs hw => ?_)
      refine lv_iadd hx hb dX5_wealth_19 ?_
      obtain ⟨x4, e, hf⟩ := ob hf
      refine q_nmI e ?_
      refine lv_istore_n (lv' := [(1, .int x4), (0, .ref v0), (2, .int v2)]) hx hb dX5_wealth_20 rfl hl (by decide) rfl (fun ls hl => ?_)
      obtain ⟨x5, e, hf⟩ := ob hf
      refine lv_iinc (v := x5) (lv' := [(2, .int x5), (1, .int x4), (0, .ref v0)]) hx hb dX5_wealth_21 hl (k := 2) rfl (Option.some.inj e) (by decide) rfl (fun ls hl => ?_)
      refine lv_goto (tgt := 4) hx hb dX5_wealth_24 (by decide) ?_
      exact ih v0 x4 x5 _ _ _ hw (lv_sub hl [2, 1, 0] rfl) hf
set_option maxHeartbeats 4000000 in
theorem c_X5_wealth {l : Launch} {s0 : State} {E : Ev} (G : Gl s0 E) {n : Nat} {z : Sh} {h : Hp} {v0 : Nat} {r : Int32} (hf : f_X5_wealth n z h v0 = some r) : Ct l s0 E yX5_wealth cX5_wealth 3 (some .int) 1 23 [.ref v0] z h h (some (.int r)) := by
  refine Ct.of G (by decide) (Nat.le_of_ble_eq_true rfl) ?_
  intro p e s m below meth c ls B hw hz hc0 hr hlk hl
  have B : Bd p s0 s E m c cX5_wealth 3 RX5 := B
  have hx := B.1
  have hb := B.2.1
  have hl : lv_has ls 3 [(0, .ref v0)] := hl
  unfold f_X5_wealth at hf
  obtain ⟨_, hf⟩ := if_some hf
  refine lv_iconst (v := 0) hx hb dX5_wealth_0 (by decide) ?_
  refine lv_istore_n (lv' := [(1, .int 0), (0, .ref v0)]) hx hb dX5_wealth_1 rfl hl (by decide) rfl (fun ls hl => ?_)
  refine lv_iconst (v := 0) hx hb dX5_wealth_2 (by decide) ?_
  refine lv_istore_n (lv' := [(2, .int 0), (1, .int 0), (0, .ref v0)]) hx hb dX5_wealth_3 rfl hl (by decide) rfl (fun ls hl => ?_)
  exact w_X5_wealth_4 G B hz hc0 hr hlk  n v0 0 0 _ _ _ hw (lv_sub hl [2, 1, 0] rfl) hf
