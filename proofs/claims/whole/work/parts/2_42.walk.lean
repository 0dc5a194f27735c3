/-! SecondLife$Reader.readHead()Z -/
def f_X6_readHead (n : Nat) (z : Sh) (h : Hp) (v0 : Nat) : Option (Int32 × Hp) :=
  if z.K v0 = 6 then
    (f_X6_take n z h v0 (z.st 11)).bind fun (x1, h2) =>
    if x1 = 0 then
      some (0, h2)
    else
      (f_X6_take n z h2 v0 (z.st 12)).bind fun (x4, h5) =>
      if x4 = 0 then
        some (0, h5)
      else
        (gR z h5 6 v0 8).bind fun a7 =>
        (f_X6_takeNumber n z h5 v0 1 6).bind fun (x8, h9) =>
        (pI z h9 8 a7 0 x8).bind fun h10 =>
        (gI z h10 6 v0 0).bind fun x11 =>
        if x11 = 0 then
          (f_X6_take n z h10 v0 (z.st 13)).bind fun (x13, h14) =>
          if x13 = 0 then
            some (0, h14)
          else
            (gR z h14 6 v0 8).bind fun a16 =>
            (f_X6_takeNumber n z h14 v0 1 4).bind fun (x17, h18) =>
            (pI z h18 8 a16 1 x17).bind fun h19 =>
            (gI z h19 6 v0 0).bind fun x20 =>
            if x20 = 0 then
              (f_X6_endLine n z h19 v0).bind fun (x22, h23) =>
              if x22 = 0 then
                some (0, h23)
              else
                some (1, h23)
            else
              some (0, h19)
        else
          some (0, h10)
  else none
theorem k_X6_readHead {n : Nat} {z : Sh} {h : Hp} {v0 : Nat} {w : Int32 × Hp} (hf : f_X6_readHead n z h v0 = some w) : z.K v0 = 6 := by
  unfold f_X6_readHead at hf
  exact (if_some hf).1
set_option maxHeartbeats 4000000 in
theorem c_X6_readHead {l : Launch} {s0 : State} {E : Ev} (G : Gl s0 E) {n : Nat} {z : Sh} {h : Hp} {v0 : Nat} {r : Int32} {h' : Hp} (hf : f_X6_readHead n z h v0 = some (r, h')) : Ct l s0 E yX6_readHead cX6_readHead 1 (some .boolean) 7 153 [.ref v0] z h h' (some (.int r)) := by
  refine Ct.of G (by decide) (Nat.le_of_ble_eq_true rfl) ?_
  intro p e s m below meth c ls B hw hz hc0 hr hlk hl
  have B : Bd p s0 s E m c cX6_readHead 1 RX6 := B
  have hx := B.1
  have hb := B.2.1
  have hl : lv_has ls 1 [(0, .ref v0)] := hl
  unfold f_X6_readHead at hf
  obtain ⟨_, hf⟩ := if_some hf
  refine lv_aload_n hx hb dX6_readHead_0 rfl (lv_at hl 0 rfl) ?_
  refine q_ldcS (tx := "town") G (i := 11) (List.mem_of_getElem? (i := 1) (by decide +kernel)) B hw dX6_readHead_1 ?_
  obtain ⟨⟨x1, h2⟩, e, hf⟩ := ob hf
  refine q_callV (As := [.ref (z.st 11)]) (rest := []) (st1 := [.int x1]) (c_X6_take G e) B hw hz hc0 (k_X6_take e) (by decide) (ci := 6) rfl rfl my_X6_take mv_X6_take tw_3_38 ⟨Nat.le_of_ble_eq_true rfl, Nat.le_of_ble_eq_true rfl⟩ ⟨Nat.zero_le _, Nat.zero_le _⟩ rfl hl.1 rfl rfl (Nat.le_of_ble_eq_true rfl) dX6_readHead_3 (fun H locs hw => ?_)
  refine lv_if_eq (tgt := 18) hx hb dX6_readHead_6 (by decide) (fun c3 => ?_) (fun c3 => ?_)
  · have hf := (if_pos c3).symm.trans hf
    refine lv_iconst (v := 0) hx hb dX6_readHead_18 (by decide) ?_
    obtain ⟨rfl, rfl⟩ := so2 hf
    exact q_zret (Or.inl rfl) B hw hz hc0 hr hlk dX6_readHead_19
  · have hf := (if_neg c3).symm.trans hf
    refine lv_aload_n hx hb dX6_readHead_9 rfl (lv_at hl 0 rfl) ?_
    refine q_ldcS (tx := "years") G (i := 12) (List.mem_of_getElem? (i := 2) (by decide +kernel)) B hw dX6_readHead_10 ?_
    obtain ⟨⟨x4, h5⟩, e, hf⟩ := ob hf
    refine q_callV (As := [.ref (z.st 12)]) (rest := []) (st1 := [.int x4]) (c_X6_take G e) B hw hz hc0 (k_X6_take e) (by decide) (ci := 6) rfl rfl my_X6_take mv_X6_take tw_3_38 ⟨Nat.le_of_ble_eq_true rfl, Nat.le_of_ble_eq_true rfl⟩ ⟨Nat.zero_le _, Nat.zero_le _⟩ rfl hl.1 rfl rfl (Nat.le_of_ble_eq_true rfl) dX6_readHead_12 (fun H locs hw => ?_)
    refine lv_if_ne (tgt := 20) hx hb dX6_readHead_15 (by decide) (fun c6 => ?_) (fun c6 => ?_)
    · have hf := (if_neg c6).symm.trans hf
      refine lv_aload_n hx hb dX6_readHead_20 rfl (lv_at hl 0 rfl) ?_
      obtain ⟨a7, e, hf⟩ := ob hf
      refine q_getR e B hw fd_6_8.1 fd_6_8.2.1 fd_6_8.2.2.1 fd_6_8.2.2.2.1 fd_6_8.2.2.2.2 rfl tw_1_113 dX6_readHead_21 ?_
      refine lv_aload_n hx hb dX6_readHead_24 rfl (lv_at hl 0 rfl) ?_
      refine lv_iconst (v := 1) hx hb dX6_readHead_25 (by decide) ?_
      refine lv_bipush (v := 6) hx hb dX6_readHead_26 (by decide) ?_
      obtain ⟨⟨x8, h9⟩, e, hf⟩ := ob hf
      refine q_callV (As := [.int 1, .int 6]) (rest := [.ref a7]) (st1 := [.int x8, .ref a7]) (c_X6_takeNumber G e) B hw hz hc0 (k_X6_takeNumber e) (by decide) (ci := 6) rfl rfl my_X6_takeNumber mv_X6_takeNumber tw_3_72 ⟨Nat.le_of_ble_eq_true rfl, Nat.le_of_ble_eq_true rfl⟩ ⟨Nat.zero_le _, Nat.zero_le _⟩ rfl hl.1 rfl rfl (Nat.le_of_ble_eq_true rfl) dX6_readHead_28 (fun H locs hw => ?_)
      obtain ⟨h10, e, hf⟩ := ob hf
      refine q_putIN e B hw fd_8_0.1 fd_8_0.2.1 fd_8_0.2.2.1 fd_8_0.2.2.2.1 fd_8_0.2.2.2.2 rfl rfl (tyX8_ok 0 (by decide)) tyX8 tyX8_ok nmX8 tw_1_49 dX6_readHead_31 (fun H locs hw => ?_)
      refine lv_aload_n hx hb dX6_readHead_34 rfl (lv_at hl 0 rfl) ?_
      obtain ⟨x11, e, hf⟩ := ob hf
      refine q_getI e B hw fd_6_0.1 fd_6_0.2.1 fd_6_0.2.2.1 fd_6_0.2.2.2.1 fd_6_0.2.2.2.2 rfl tw_1_103 dX6_readHead_35 ?_
      refine lv_if_ne (tgt := 50) hx hb dX6_readHead_38 (by decide) (fun c12 => ?_) (fun c12 => ?_)
      · have hf := (if_neg c12).symm.trans hf
        refine lv_iconst (v := 0) hx hb dX6_readHead_50 (by decide) ?_
        obtain ⟨rfl, rfl⟩ := so2 hf
        exact q_zret (Or.inl rfl) B hw hz hc0 hr hlk dX6_readHead_51
      · have hf := (if_pos c12).symm.trans hf
        refine lv_aload_n hx hb dX6_readHead_41 rfl (lv_at hl 0 rfl) ?_
        refine q_ldcS (tx := "trades") G (i := 13) (List.mem_of_getElem? (i := 3) (by decide +kernel)) B hw dX6_readHead_42 ?_
        obtain ⟨⟨x13, h14⟩, e, hf⟩ := ob hf
        refine q_callV (As := [.ref (z.st 13)]) (rest := []) (st1 := [.int x13]) (c_X6_take G e) B hw hz hc0 (k_X6_take e) (by decide) (ci := 6) rfl rfl my_X6_take mv_X6_take tw_3_38 ⟨Nat.le_of_ble_eq_true rfl, Nat.le_of_ble_eq_true rfl⟩ ⟨Nat.zero_le _, Nat.zero_le _⟩ rfl hl.1 rfl rfl (Nat.le_of_ble_eq_true rfl) dX6_readHead_44 (fun H locs hw => ?_)
        refine lv_if_ne (tgt := 52) hx hb dX6_readHead_47 (by decide) (fun c15 => ?_) (fun c15 => ?_)
        · have hf := (if_neg c15).symm.trans hf
          refine lv_aload_n hx hb dX6_readHead_52 rfl (lv_at hl 0 rfl) ?_
          obtain ⟨a16, e, hf⟩ := ob hf
          refine q_getR e B hw fd_6_8.1 fd_6_8.2.1 fd_6_8.2.2.1 fd_6_8.2.2.2.1 fd_6_8.2.2.2.2 rfl tw_1_113 dX6_readHead_53 ?_
          refine lv_aload_n hx hb dX6_readHead_56 rfl (lv_at hl 0 rfl) ?_
          refine lv_iconst (v := 1) hx hb dX6_readHead_57 (by decide) ?_
          refine lv_iconst (v := 4) hx hb dX6_readHead_58 (by decide) ?_
          obtain ⟨⟨x17, h18⟩, e, hf⟩ := ob hf
          refine q_callV (As := [.int 1, .int 4]) (rest := [.ref a16]) (st1 := [.int x17, .ref a16]) (c_X6_takeNumber G e) B hw hz hc0 (k_X6_takeNumber e) (by decide) (ci := 6) rfl rfl my_X6_takeNumber mv_X6_takeNumber tw_3_72 ⟨Nat.le_of_ble_eq_true rfl, Nat.le_of_ble_eq_true rfl⟩ ⟨Nat.zero_le _, Nat.zero_le _⟩ rfl hl.1 rfl rfl (Nat.le_of_ble_eq_true rfl) dX6_readHead_59 (fun H locs hw => ?_)
          obtain ⟨h19, e, hf⟩ := ob hf
          refine q_putIN e B hw fd_8_1.1 fd_8_1.2.1 fd_8_1.2.2.1 fd_8_1.2.2.2.1 fd_8_1.2.2.2.2 rfl rfl (tyX8_ok 1 (by decide)) tyX8 tyX8_ok nmX8 tw_1_56 dX6_readHead_62 (fun H locs hw => ?_)
          refine lv_aload_n hx hb dX6_readHead_65 rfl (lv_at hl 0 rfl) ?_
          obtain ⟨x20, e, hf⟩ := ob hf
          refine q_getI e B hw fd_6_0.1 fd_6_0.2.1 fd_6_0.2.2.1 fd_6_0.2.2.2.1 fd_6_0.2.2.2.2 rfl tw_1_103 dX6_readHead_66 ?_
          refine lv_if_ne (tgt := 83) hx hb dX6_readHead_69 (by decide) (fun c21 => ?_) (fun c21 => ?_)
          · have hf := (if_neg c21).symm.trans hf
            refine lv_iconst (v := 0) hx hb dX6_readHead_83 (by decide) ?_
            obtain ⟨rfl, rfl⟩ := so2 hf
            exact q_zret (Or.inl rfl) B hw hz hc0 hr hlk dX6_readHead_84
          · have hf := (if_pos c21).symm.trans hf
            refine lv_aload_n hx hb dX6_readHead_72 rfl (lv_at hl 0 rfl) ?_
            obtain ⟨⟨x22, h23⟩, e, hf⟩ := ob hf
            refine q_callV (As := []) (rest := []) (st1 := [.int x22]) (c_X6_endLine G e) B hw hz hc0 (k_X6_endLine e) (by decide) (ci := 6) rfl rfl my_X6_endLine mv_X6_endLine tw_3_77 ⟨Nat.le_of_ble_eq_true rfl, Nat.le_of_ble_eq_true rfl⟩ ⟨Nat.zero_le _, Nat.zero_le _⟩ rfl hl.1 rfl rfl (Nat.le_of_ble_eq_true rfl) dX6_readHead_73 (fun H locs hw => ?_)
            refine lv_if_eq (tgt := 83) hx hb dX6_readHead_76 (by decide) (fun c24 => ?_) (fun c24 => ?_)
            · have hf := (if_pos c24).symm.trans hf
              refine lv_iconst (v := 0) hx hb dX6_readHead_83 (by decide) ?_
              obtain ⟨rfl, rfl⟩ := so2 hf
              exact q_zret (Or.inl rfl) B hw hz hc0 hr hlk dX6_readHead_84
            · have hf := (if_neg c24).symm.trans hf
              refine lv_iconst (v := 1) hx hb dX6_readHead_79 (by decide) ?_
              refine lv_goto (tgt := 84) hx hb dX6_readHead_80 (by decide) ?_
              obtain ⟨rfl, rfl⟩ := so2 hf
              exact q_zret (Or.inr rfl) B hw hz hc0 hr hlk dX6_readHead_84
        · have hf := (if_pos c15).symm.trans hf
          refine lv_iconst (v := 0) hx hb dX6_readHead_50 (by decide) ?_
          obtain ⟨rfl, rfl⟩ := so2 hf
          exact q_zret (Or.inl rfl) B hw hz hc0 hr hlk dX6_readHead_51
    · have hf := (if_pos c6).symm.trans hf
      refine lv_iconst (v := 0) hx hb dX6_readHead_18 (by decide) ?_
      obtain ⟨rfl, rfl⟩ := so2 hf
      exact q_zret (Or.inl rfl) B hw hz hc0 hr hlk dX6_readHead_19
/-! SecondLife$Reader.readLaw(Z)Z -/
def f_X6_readLaw (n : Nat) (z : Sh) (h : Hp) (v0 : Nat) (v1 : Int32) : Option (Int32 × Hp × Sh) :=
  if z.K v0 = 6 then
    gd3 z <|
    (f_X6_next n z h v0).bind fun h1 =>
    (pZ z h1 6 v0 9 v1).bind fun h2 =>
    (pI z h2 6 v0 11 0).bind fun h3 =>
    (f_X6_take n z h3 v0 (z.st 22)).bind fun (x4, h5) =>
    if x4 = 0 then
      some (0, h5, z)
    else
      (f_X6_readSum n z h5 v0 0).bind fun (x7, h8) =>
      if x7 = 0 then
        some (0, h8, z)
      else
        (gR z h8 6 v0 10).bind fun a10 =>
        (gI z h8 6 v0 11).bind fun x11 =>
        (f_J7_copyOf_59c91 z h8 a10 x11).bind fun (o12, h13, z14) =>
        gd3 z14 <|
        (match o12 with
        | none =>
          none
        | some a15 =>
          if v1 = 0 then
            (gR z14 h13 6 v0 8).bind fun a17 =>
            (pR z14 h13 8 a17 9 (some a15)).bind fun h18 =>
            some (1, h18, z14)
          else
            (gR z14 h13 6 v0 8).bind fun a19 =>
            (pR z14 h13 8 a19 8 (some a15)).bind fun h20 =>
            some (1, h20, z14))
  else none
theorem k_X6_readLaw {n : Nat} {z : Sh} {h : Hp} {v0 : Nat} {v1 : Int32} {w : Int32 × Hp × Sh} (hf : f_X6_readLaw n z h v0 v1 = some w) : z.K v0 = 6 := by
  unfold f_X6_readLaw at hf
  exact (if_some hf).1
theorem mo_X6_readLaw {n : Nat} {z : Sh} {h : Hp} {v0 : Nat} {v1 : Int32} {r : Int32} {h' : Hp} {zE : Sh} (hf : f_X6_readLaw n z h v0 v1 = some (r, h', zE)) : z.sz ≤ zE.sz ∧ z.sl ≤ zE.sl := by
  unfold f_X6_readLaw at hf
  exact (gd3_some (if_some hf).2).1
set_option maxHeartbeats 4000000 in
theorem c_X6_readLaw {l : Launch} {s0 : State} {E : Ev} (G : Gl s0 E) {n : Nat} {z : Sh} {h : Hp} {v0 : Nat} {v1 : Int32} {r : Int32} {h' : Hp} {zE : Sh} (hf : f_X6_readLaw n z h v0 v1 = some (r, h', zE)) : Ca l s0 E yX6_readLaw cX6_readLaw 3 (some .boolean) 68 3758 [.ref v0, .int v1] z zE h h' (some (.int r)) := by
  refine Ca.of G (by decide +kernel) (Nat.le_of_ble_eq_true rfl) (mo_X6_readLaw hf) ?_
  intro p e s m below meth c ls B hw hM hr hlk hnm0 hl
  have B : Bd p s0 s E m c cX6_readLaw 3 RX6 := B
  have hx := B.1
  have hb := B.2.1
  have hl : lv_has ls 3 [(0, .ref v0), (1, .int v1)] := hl
  unfold f_X6_readLaw at hf
  obtain ⟨_, hf⟩ := if_some hf
  obtain ⟨_, hf⟩ := gd3_some hf
  refine lv_aload_n hx hb dX6_readLaw_0 rfl (lv_at hl 0 rfl) ?_
  obtain ⟨h1, e, hf⟩ := ob hf
  refine q_callV (As := []) (rest := []) (st1 := []) (c_X6_next G e) B hw hM.hz hM.hc0 (k_X6_next e) (by decide) (ci := 6) rfl rfl my_X6_next mv_X6_next tw_2_171 ⟨Nat.le_of_ble_eq_true rfl, Nat.le_of_ble_eq_true rfl⟩ hM.hcs rfl hl.1 rfl rfl (Nat.le_of_ble_eq_true rfl) dX6_readLaw_1 (fun H locs hw => ?_)
  refine lv_aload_n hx hb dX6_readLaw_4 rfl (lv_at hl 0 rfl) ?_
  refine lv_iload_n hx hb dX6_readLaw_5 rfl (lv_at hl 1 rfl) ?_
  obtain ⟨h2, e, hf⟩ := ob hf
  refine q_putZ e B hw fd_6_9.1 fd_6_9.2.1 fd_6_9.2.2.1 fd_6_9.2.2.2.1 fd_6_9.2.2.2.2 rfl rfl (tyX6_ok 9 (by decide)) tyX6 tyX6_ok nmX6 tw_1_114 dX6_readLaw_6 (fun H locs hw => ?_)
  refine lv_aload_n hx hb dX6_readLaw_9 rfl (lv_at hl 0 rfl) ?_
  refine lv_iconst (v := 0) hx hb dX6_readLaw_10 (by decide) ?_
  obtain ⟨h3, e, hf⟩ := ob hf
  refine q_putI e B hw fd_6_11.1 fd_6_11.2.1 fd_6_11.2.2.1 fd_6_11.2.2.2.1 fd_6_11.2.2.2.2 rfl rfl (tyX6_ok 11 (by decide)) tyX6 tyX6_ok nmX6 tw_1_116 dX6_readLaw_11 (fun H locs hw => ?_)
  refine lv_aload_n hx hb dX6_readLaw_14 rfl (lv_at hl 0 rfl) ?_
  refine q_ldcS (tx := ":") G (i := 22) (List.mem_of_getElem? (i := 12) (by decide +kernel)) B hw dX6_readLaw_15 ?_
  obtain ⟨⟨x4, h5⟩, e, hf⟩ := ob hf
  refine q_callV (As := [.ref (z.st 22)]) (rest := []) (st1 := [.int x4]) (c_X6_take G e) B hw hM.hz hM.hc0 (k_X6_take e) (by decide) (ci := 6) rfl rfl my_X6_take mv_X6_take tw_3_38 ⟨Nat.le_of_ble_eq_true rfl, Nat.le_of_ble_eq_true rfl⟩ hM.hcs rfl hl.1 rfl rfl (Nat.le_of_ble_eq_true rfl) dX6_readLaw_17 (fun H locs hw => ?_)
  refine lv_if_eq (tgt := 31) hx hb dX6_readLaw_20 (by decide) (fun c6 => ?_) (fun c6 => ?_)
  · have hf := (if_pos c6).symm.trans hf
    refine lv_iconst (v := 0) hx hb dX6_readLaw_31 (by decide) ?_
    obtain ⟨rfl, rfl, rfl⟩ := so3 hf
    exact q_zret (Or.inl rfl) B hw hM.hz hM.hc0 hr hlk dX6_readLaw_32
  · have hf := (if_neg c6).symm.trans hf
    refine lv_aload_n hx hb dX6_readLaw_23 rfl (lv_at hl 0 rfl) ?_
    refine lv_iconst (v := 0) hx hb dX6_readLaw_24 (by decide) ?_
    obtain ⟨⟨x7, h8⟩, e, hf⟩ := ob hf
    refine q_callV (As := [.int 0]) (rest := []) (st1 := [.int x7]) (c_X6_readSum G e) B hw hM.hz hM.hc0 (k_X6_readSum e) (by decide) (ci := 6) rfl rfl my_X6_readSum mv_X6_readSum tw_3_106 ⟨Nat.le_of_ble_eq_true rfl, Nat.le_of_ble_eq_true rfl⟩ hM.hcs rfl hl.1 rfl rfl (Nat.le_of_ble_eq_true rfl) dX6_readLaw_25 (fun H locs hw => ?_)
    refine lv_if_ne (tgt := 33) hx hb dX6_readLaw_28 (by decide) (fun c9 => ?_) (fun c9 => ?_)
    · have hf := (if_neg c9).symm.trans hf
      refine lv_aload_n hx hb dX6_readLaw_33 rfl (lv_at hl 0 rfl) ?_
      obtain ⟨a10, e, hf⟩ := ob hf
      refine q_getR e B hw fd_6_10.1 fd_6_10.2.1 fd_6_10.2.2.1 fd_6_10.2.2.2.1 fd_6_10.2.2.2.2 rfl tw_1_115 dX6_readLaw_34 ?_
      refine lv_aload_n hx hb dX6_readLaw_37 rfl (lv_at hl 0 rfl) ?_
      obtain ⟨x11, e, hf⟩ := ob hf
      refine q_getI e B hw fd_6_11.1 fd_6_11.2.1 fd_6_11.2.2.1 fd_6_11.2.2.2.1 fd_6_11.2.2.2.2 rfl tw_1_116 dX6_readLaw_38 ?_
      obtain ⟨⟨o12, h13, z14⟩, e, hf⟩ := ob hf
      obtain ⟨hg, hf⟩ := gd3_some hf
      refine q_callSA (As := [.ref a10, .int x11]) (rest := []) (st1 := [va_rf o12]) (c_J7_copyOf_59c91 G e) (mo_J7_copyOf_59c91 e) hg B hw hM my_J7_copyOf_59c91 mv_J7_copyOf_59c91 tw_3_165 ⟨Nat.le_of_ble_eq_true rfl, Nat.le_of_ble_eq_true rfl⟩ rfl hl.1 rfl rfl (Nat.le_of_ble_eq_true rfl) dX6_readLaw_41 (fun H locs hw hM => ?_)
      rcases o12 with _ | a15
      · cases hf
      · refine lv_astore_n (lv' := [(2, .ref a15), (0, .ref v0), (1, .int v1)]) hx hb dX6_readLaw_44 rfl hl (by decide) rfl (fun ls hl => ?_)
        refine lv_iload_n hx hb dX6_readLaw_45 rfl (lv_at hl 2 rfl) ?_
        refine lv_if_eq (tgt := 60) hx hb dX6_readLaw_46 (by decide) (fun c16 => ?_) (fun c16 => ?_)
        · have hf := (if_pos c16).symm.trans hf
          refine lv_aload_n hx hb dX6_readLaw_60 rfl (lv_at hl 1 rfl) ?_
          obtain ⟨a17, e, hf⟩ := ob hf
          refine q_getR e B hw fd_6_8.1 fd_6_8.2.1 fd_6_8.2.2.1 fd_6_8.2.2.2.1 fd_6_8.2.2.2.2 rfl tw_1_113 dX6_readLaw_61 ?_
          refine lv_aload_n hx hb dX6_readLaw_64 rfl (lv_at hl 0 rfl) ?_
          obtain ⟨h18, e, hf⟩ := ob hf
          refine q_putRN e B hw fd_8_9.1 fd_8_9.2.1 fd_8_9.2.2.1 fd_8_9.2.2.2.1 fd_8_9.2.2.2.2 rfl rfl (tyX8_ok 9 (by decide)) (Or.inr ⟨_, rfl⟩) tyX8 tyX8_ok nmX8 tw_1_79 dX6_readLaw_65 (fun H locs hw => ?_)
          refine lv_iconst (v := 1) hx hb dX6_readLaw_68 (by decide) ?_
          obtain ⟨rfl, rfl, rfl⟩ := so3 hf
          exact q_zret (Or.inr rfl) B hw hM.hz hM.hc0 hr hlk dX6_readLaw_69
        · have hf := (if_neg c16).symm.trans hf
          refine lv_aload_n hx hb dX6_readLaw_49 rfl (lv_at hl 1 rfl) ?_
          obtain ⟨a19, e, hf⟩ := ob hf
          refine q_getR e B hw fd_6_8.1 fd_6_8.2.1 fd_6_8.2.2.1 fd_6_8.2.2.2.1 fd_6_8.2.2.2.2 rfl tw_1_113 dX6_readLaw_50 ?_
          refine lv_aload_n hx hb dX6_readLaw_53 rfl (lv_at hl 0 rfl) ?_
          obtain ⟨h20, e, hf⟩ := ob hf
          refine q_putRN e B hw fd_8_8.1 fd_8_8.2.1 fd_8_8.2.2.1 fd_8_8.2.2.2.1 fd_8_8.2.2.2.2 rfl rfl (tyX8_ok 8 (by decide)) (Or.inr ⟨_, rfl⟩) tyX8 tyX8_ok nmX8 tw_1_76 dX6_readLaw_54 (fun H locs hw => ?_)
          refine lv_goto (tgt := 68) hx hb dX6_readLaw_57 (by decide) ?_
          refine lv_iconst (v := 1) hx hb dX6_readLaw_68 (by decide) ?_
          obtain ⟨rfl, rfl, rfl⟩ := so3 hf
          exact q_zret (Or.inr rfl) B hw hM.hz hM.hc0 hr hlk dX6_readLaw_69
    · have hf := (if_pos c9).symm.trans hf
      refine lv_iconst (v := 0) hx hb dX6_readLaw_31 (by decide) ?_
      obtain ⟨rfl, rfl, rfl⟩ := so3 hf
      exact q_zret (Or.inl rfl) B hw hM.hz hM.hc0 hr hlk dX6_readLaw_32
/-! SecondLife$Reader.readLine()Z -/
def f_X6_readLine_142 (n : Nat)  (z : Sh) (h : Hp) (v0 : Nat) : Option (Int32 × Hp × Sh) :=
  (f_X6_is n z h v0 (z.st 20)).bind fun x1 =>
  (f_X6_readLaw n z h v0 x1).bind fun (x2, h3, z4) =>
  gd3 z4 <|
  if x2 = 0 then
    some (0, h3, z4)
  else
    (f_X6_endLine n z4 h3 v0).bind fun (x6, h7) =>
    if x6 = 0 then
      some (0, h7, z4)
    else
      some (1, h7, z4)
def f_X6_readLine (n : Nat) (z : Sh) (h : Hp) (v0 : Nat) : Option (Int32 × Hp × Sh) :=
  if z.K v0 = 6 then
    gd3 z <|
    (f_X6_is n z h v0 (z.st 15)).bind fun x1 =>
    if x1 = 0 then
      (f_X6_is n z h v0 (z.st 18)).bind fun x3 =>
      if x3 = 0 then
        (f_X6_is n z h v0 (z.st 19)).bind fun x5 =>
        if x5 = 0 then
          (f_X6_is n z h v0 (z.st 20)).bind fun x7 =>
          if x7 = 0 then
            (f_X6_is n z h v0 (z.st 21)).bind fun x9 =>
            if x9 = 0 then
              (f_X6_wrong z h v0 2).bind fun (x11, h12) =>
              (bz x11).bind fun x13 =>
              some (x13, h12, z)
            else
              f_X6_readLine_142 n z h v0
          else
            f_X6_readLine_142 n z h v0
        else
          (f_X6_next n z h v0).bind fun h14 =>
          (gR z h14 6 v0 8).bind fun a15 =>
          (f_X6_takeNumber n z h14 v0 0 10).bind fun (x16, h17) =>
          (pI z h17 8 a15 4 x16).bind fun h18 =>
          (gI z h18 6 v0 0).bind fun x19 =>
          if x19 = 0 then
            (f_X6_endLine n z h18 v0).bind fun (x21, h22) =>
            if x21 = 0 then
              some (0, h22, z)
            else
              some (1, h22, z)
          else
            some (0, h18, z)
      else
        (f_X6_next n z h v0).bind fun h24 =>
        (gR z h24 6 v0 8).bind fun a25 =>
        (f_X6_takeNumber n z h24 v0 0 999).bind fun (x26, h27) =>
        (pI z h27 8 a25 3 x26).bind fun h28 =>
        (gI z h28 6 v0 0).bind fun x29 =>
        if x29 = 0 then
          (f_X6_endLine n z h28 v0).bind fun (x31, h32) =>
          if x31 = 0 then
            some (0, h32, z)
          else
            some (1, h32, z)
        else
          some (0, h28, z)
    else
      (f_X6_readPerson n z h v0).bind fun (x34, h35) =>
      if x34 = 0 then
        some (0, h35, z)
      else
        (f_X6_endLine n z h35 v0).bind fun (x37, h38) =>
        if x37 = 0 then
          some (0, h38, z)
        else
          some (1, h38, z)
  else none
theorem k_X6_readLine {n : Nat} {z : Sh} {h : Hp} {v0 : Nat} {w : Int32 × Hp × Sh} (hf : f_X6_readLine n z h v0 = some w) : z.K v0 = 6 := by
  unfold f_X6_readLine at hf
  exact (if_some hf).1
theorem mo_X6_readLine {n : Nat} {z : Sh} {h : Hp} {v0 : Nat} {r : Int32} {h' : Hp} {zE : Sh} (hf : f_X6_readLine n z h v0 = some (r, h', zE)) : z.sz ≤ zE.sz ∧ z.sl ≤ zE.sl := by
  unfold f_X6_readLine at hf
  exact (gd3_some (if_some hf).2).1
set_option maxHeartbeats 4000000 in
theorem w_X6_readLine_142 {p : Program} {l : Launch} {e : Env} {s : State} {m : MethodId} {args : Array Value} {below : List Frame} {meth : Method} {c : Code} {s0 : State} {E : Ev} {z0 : Sh} {n : Nat} {r : Int32} {h' : Hp} {zE : Sh} (G : Gl s0 E) (B : Bd p s0 s E m c cX6_readLine 1 RX6) (hr : meth.sig.returnType = (some .boolean)) (hlk : meth.locks = false) : ∀ (z : Sh) (h : Hp) (v0 : Nat) (H : Heap) (locs : List Loc) (ls : Array Slot), Pw s0 s E z h H locs → Mo s0 s z0 z zE → lv_has ls 1 [(0, .ref v0)] → f_X6_readLine_142 n z h v0 = some (r, h', zE) → W p l e (rmA 69 3780 z0 zE) s m args below meth c H locs (z.sz - z0.sz) (z.sl - z0.sl) (Zt below s0 E zE h' (some (.int r)) args s (zE.sz - z0.sz) (zE.sl - z0.sl)) (F0 m 142 ls []) := by
  have hx := B.1
  have hb := B.2.1
  intro z h v0 H locs ls hw hM hl hf
  unfold f_X6_readLine_142 at hf
  refine lv_aload_n hx hb dX6_readLine_142 rfl (lv_at hl 0 rfl) ?_
  refine lv_aload_n hx hb dX6_readLine_143 rfl (lv_at hl 0 rfl) ?_
  refine q_ldcS (tx := "worth") G (i := 20) (List.mem_of_getElem? (i := 10) (by decide +kernel)) B hw dX6_readLine_144 ?_
  obtain ⟨x1, e, hf⟩ := ob hf
  refine q_callV (As := [.ref (z.st 20)]) (rest := [.ref v0]) (st1 := [.int x1, .ref v0]) (c_X6_is G e) B hw hM.hz hM.hc0 (k_X6_is e) (by decide) (ci := 6) rfl rfl my_X6_is mv_X6_is tw_3_42 ⟨Nat.le_of_ble_eq_true rfl, Nat.le_of_ble_eq_true rfl⟩ hM.hcs rfl hl.1 rfl rfl (Nat.le_of_ble_eq_true rfl) dX6_readLine_146 (fun H locs hw => ?_)
  obtain ⟨⟨x2, h3, z4⟩, e, hf⟩ := ob hf
  obtain ⟨hg, hf⟩ := gd3_some hf
  refine q_callVA (As := [.int x1]) (rest := []) (st1 := [.int x2]) (c_X6_readLaw G e) (mo_X6_readLaw e) hg B hw hM (k_X6_readLaw e) (by decide) (ci := 6) rfl rfl my_X6_readLaw mv_X6_readLaw tw_3_101 ⟨Nat.le_of_ble_eq_true rfl, Nat.le_of_ble_eq_true rfl⟩ rfl hl.1 rfl rfl (Nat.le_of_ble_eq_true rfl) dX6_readLine_149 (fun H locs hw hM => ?_)
  refine lv_if_eq (tgt := 166) hx hb dX6_readLine_152 (by decide) (fun c5 => ?_) (fun c5 => ?_)
  · have hf := (if_pos c5).symm.trans hf
    refine lv_iconst (v := 0) hx hb dX6_readLine_166 (by decide) ?_
    obtain ⟨rfl, rfl, rfl⟩ := so3 hf
    exact q_zret (Or.inl rfl) B hw hM.hz hM.hc0 hr hlk dX6_readLine_167
  · have hf := (if_neg c5).symm.trans hf
    refine lv_aload_n hx hb dX6_readLine_155 rfl (lv_at hl 0 rfl) ?_
    obtain ⟨⟨x6, h7⟩, e, hf⟩ := ob hf
    refine q_callV (As := []) (rest := []) (st1 := [.int x6]) (c_X6_endLine G e) B hw hM.hz hM.hc0 (k_X6_endLine e) (by decide) (ci := 6) rfl rfl my_X6_endLine mv_X6_endLine tw_3_77 ⟨Nat.le_of_ble_eq_true rfl, Nat.le_of_ble_eq_true rfl⟩ hM.hcs rfl hl.1 rfl rfl (Nat.le_of_ble_eq_true rfl) dX6_readLine_156 (fun H locs hw => ?_)
    refine lv_if_eq (tgt := 166) hx hb dX6_readLine_159 (by decide) (fun c8 => ?_) (fun c8 => ?_)
    · have hf := (if_pos c8).symm.trans hf
      refine lv_iconst (v := 0) hx hb dX6_readLine_166 (by decide) ?_
      obtain ⟨rfl, rfl, rfl⟩ := so3 hf
      exact q_zret (Or.inl rfl) B hw hM.hz hM.hc0 hr hlk dX6_readLine_167
    · have hf := (if_neg c8).symm.trans hf
      refine lv_iconst (v := 1) hx hb dX6_readLine_162 (by decide) ?_
      refine lv_goto (tgt := 167) hx hb dX6_readLine_163 (by decide) ?_
      obtain ⟨rfl, rfl, rfl⟩ := so3 hf
      exact q_zret (Or.inr rfl) B hw hM.hz hM.hc0 hr hlk dX6_readLine_167
set_option maxHeartbeats 4000000 in
theorem c_X6_readLine {l : Launch} {s0 : State} {E : Ev} (G : Gl s0 E) {n : Nat} {z : Sh} {h : Hp} {v0 : Nat} {r : Int32} {h' : Hp} {zE : Sh} (hf : f_X6_readLine n z h v0 = some (r, h', zE)) : Ca l s0 E yX6_readLine cX6_readLine 1 (some .boolean) 69 3780 [.ref v0] z zE h h' (some (.int r)) := by
  refine Ca.of G (by decide +kernel) (Nat.le_of_ble_eq_true rfl) (mo_X6_readLine hf) ?_
  intro p e s m below meth c ls B hw hM hr hlk hnm0 hl
  have B : Bd p s0 s E m c cX6_readLine 1 RX6 := B
  have hx := B.1
  have hb := B.2.1
  have hl : lv_has ls 1 [(0, .ref v0)] := hl
  unfold f_X6_readLine at hf
  obtain ⟨_, hf⟩ := if_some hf
  obtain ⟨_, hf⟩ := gd3_some hf
  refine lv_aload_n hx hb dX6_readLine_0 rfl (lv_at hl 0 rfl) ?_
  refine q_ldcS (tx := "person") G (i := 15) (List.mem_of_getElem? (i := 5) (by decide +kernel)) B hw dX6_readLine_1 ?_
  obtain ⟨x1, e, hf⟩ := ob hf
  refine q_callV (As := [.ref (z.st 15)]) (rest := []) (st1 := [.int x1]) (c_X6_is G e) B hw hM.hz hM.hc0 (k_X6_is e) (by decide) (ci := 6) rfl rfl my_X6_is mv_X6_is tw_3_42 ⟨Nat.le_of_ble_eq_true rfl, Nat.le_of_ble_eq_true rfl⟩ hM.hcs rfl hl.1 rfl rfl (Nat.le_of_ble_eq_true rfl) dX6_readLine_3 (fun H locs hw => ?_)
  refine lv_if_eq (tgt := 29) hx hb dX6_readLine_6 (by decide) (fun c2 => ?_) (fun c2 => ?_)
  · have hf := (if_pos c2).symm.trans hf
    refine lv_aload_n hx hb dX6_readLine_29 rfl (lv_at hl 0 rfl) ?_
    refine q_ldcS (tx := "cash") G (i := 18) (List.mem_of_getElem? (i := 8) (by decide +kernel)) B hw dX6_readLine_30 ?_
    obtain ⟨x3, e, hf⟩ := ob hf
    refine q_callV (As := [.ref (z.st 18)]) (rest := []) (st1 := [.int x3]) (c_X6_is G e) B hw hM.hz hM.hc0 (k_X6_is e) (by decide) (ci := 6) rfl rfl my_X6_is mv_X6_is tw_3_42 ⟨Nat.le_of_ble_eq_true rfl, Nat.le_of_ble_eq_true rfl⟩ hM.hcs rfl hl.1 rfl rfl (Nat.le_of_ble_eq_true rfl) dX6_readLine_32 (fun H locs hw => ?_)
    refine lv_if_eq (tgt := 77) hx hb dX6_readLine_35 (by decide) (fun c4 => ?_) (fun c4 => ?_)
    · have hf := (if_pos c4).symm.trans hf
      refine lv_aload_n hx hb dX6_readLine_77 rfl (lv_at hl 0 rfl) ?_
      refine q_ldcS (tx := "dies") G (i := 19) (List.mem_of_getElem? (i := 9) (by decide +kernel)) B hw dX6_readLine_78 ?_
      obtain ⟨x5, e, hf⟩ := ob hf
      refine q_callV (As := [.ref (z.st 19)]) (rest := []) (st1 := [.int x5]) (c_X6_is G e) B hw hM.hz hM.hc0 (k_X6_is e) (by decide) (ci := 6) rfl rfl my_X6_is mv_X6_is tw_3_42 ⟨Nat.le_of_ble_eq_true rfl, Nat.le_of_ble_eq_true rfl⟩ hM.hcs rfl hl.1 rfl rfl (Nat.le_of_ble_eq_true rfl) dX6_readLine_80 (fun H locs hw => ?_)
      refine lv_if_eq (tgt := 124) hx hb dX6_readLine_83 (by decide) (fun c6 => ?_) (fun c6 => ?_)
      · have hf := (if_pos c6).symm.trans hf
        refine lv_aload_n hx hb dX6_readLine_124 rfl (lv_at hl 0 rfl) ?_
        refine q_ldcS (tx := "worth") G (i := 20) (List.mem_of_getElem? (i := 10) (by decide +kernel)) B hw dX6_readLine_125 ?_
        obtain ⟨x7, e, hf⟩ := ob hf
        refine q_callV (As := [.ref (z.st 20)]) (rest := []) (st1 := [.int x7]) (c_X6_is G e) B hw hM.hz hM.hc0 (k_X6_is e) (by decide) (ci := 6) rfl rfl my_X6_is mv_X6_is tw_3_42 ⟨Nat.le_of_ble_eq_true rfl, Nat.le_of_ble_eq_true rfl⟩ hM.hcs rfl hl.1 rfl rfl (Nat.le_of_ble_eq_true rfl) dX6_readLine_127 (fun H locs hw => ?_)
        refine lv_if_ne (tgt := 142) hx hb dX6_readLine_130 (by decide) (fun c8 => ?_) (fun c8 => ?_)
        · have hf := (if_neg c8).symm.trans hf
          exact w_X6_readLine_142 G B hr hlk  z h v0 _ _ _ hw hM (lv_sub hl [0] rfl) hf
        · have hf := (if_pos c8).symm.trans hf
          refine lv_aload_n hx hb dX6_readLine_133 rfl (lv_at hl 0 rfl) ?_
          refine q_ldcS (tx := "grows") G (i := 21) (List.mem_of_getElem? (i := 11) (by decide +kernel)) B hw dX6_readLine_134 ?_
          obtain ⟨x9, e, hf⟩ := ob hf
          refine q_callV (As := [.ref (z.st 21)]) (rest := []) (st1 := [.int x9]) (c_X6_is G e) B hw hM.hz hM.hc0 (k_X6_is e) (by decide) (ci := 6) rfl rfl my_X6_is mv_X6_is tw_3_42 ⟨Nat.le_of_ble_eq_true rfl, Nat.le_of_ble_eq_true rfl⟩ hM.hcs rfl hl.1 rfl rfl (Nat.le_of_ble_eq_true rfl) dX6_readLine_136 (fun H locs hw => ?_)
          refine lv_if_eq (tgt := 168) hx hb dX6_readLine_139 (by decide) (fun c10 => ?_) (fun c10 => ?_)
          · have hf := (if_pos c10).symm.trans hf
            refine lv_aload_n hx hb dX6_readLine_168 rfl (lv_at hl 0 rfl) ?_
            refine lv_iconst (v := 2) hx hb dX6_readLine_169 (by decide) ?_
            obtain ⟨⟨x11, h12⟩, e, hf⟩ := ob hf
            refine q_callV (As := [.int 2]) (rest := []) (st1 := [.int x11]) (c_X6_wrong G e) B hw hM.hz hM.hc0 (k_X6_wrong e) (by decide) (ci := 6) rfl rfl my_X6_wrong mv_X6_wrong tw_3_67 ⟨Nat.le_of_ble_eq_true rfl, Nat.le_of_ble_eq_true rfl⟩ hM.hcs rfl hl.1 rfl rfl (Nat.le_of_ble_eq_true rfl) dX6_readLine_170 (fun H locs hw => ?_)
            obtain ⟨x13, e, hf⟩ := ob hf
            obtain ⟨e1, e⟩ := if_some e
            cases e
            obtain ⟨rfl, rfl, rfl⟩ := so3 hf
            exact q_zret e1 B hw hM.hz hM.hc0 hr hlk dX6_readLine_173
          · have hf := (if_neg c10).symm.trans hf
            exact w_X6_readLine_142 G B hr hlk  z h v0 _ _ _ hw hM (lv_sub hl [0] rfl) hf
      · have hf := (if_neg c6).symm.trans hf
        refine lv_aload_n hx hb dX6_readLine_86 rfl (lv_at hl 0 rfl) ?_
        obtain ⟨h14, e, hf⟩ := ob hf
        refine q_callV (As := []) (rest := []) (st1 := []) (c_X6_next G e) B hw hM.hz hM.hc0 (k_X6_next e) (by decide) (ci := 6) rfl rfl my_X6_next mv_X6_next tw_2_171 ⟨Nat.le_of_ble_eq_true rfl, Nat.le_of_ble_eq_true rfl⟩ hM.hcs rfl hl.1 rfl rfl (Nat.le_of_ble_eq_true rfl) dX6_readLine_87 (fun H locs hw => ?_)
        refine lv_aload_n hx hb dX6_readLine_90 rfl (lv_at hl 0 rfl) ?_
        obtain ⟨a15, e, hf⟩ := ob hf
        refine q_getR e B hw fd_6_8.1 fd_6_8.2.1 fd_6_8.2.2.1 fd_6_8.2.2.2.1 fd_6_8.2.2.2.2 rfl tw_1_113 dX6_readLine_91 ?_
        refine lv_aload_n hx hb dX6_readLine_94 rfl (lv_at hl 0 rfl) ?_
        refine lv_iconst (v := 0) hx hb dX6_readLine_95 (by decide) ?_
        refine lv_bipush (v := 10) hx hb dX6_readLine_96 (by decide) ?_
        obtain ⟨⟨x16, h17⟩, e, hf⟩ := ob hf
        refine q_callV (As := [.int 0, .int 10]) (rest := [.ref a15]) (st1 := [.int x16, .ref a15]) (c_X6_takeNumber G e) B hw hM.hz hM.hc0 (k_X6_takeNumber e) (by decide) (ci := 6) rfl rfl my_X6_takeNumber mv_X6_takeNumber tw_3_72 ⟨Nat.le_of_ble_eq_true rfl, Nat.le_of_ble_eq_true rfl⟩ hM.hcs rfl hl.1 rfl rfl (Nat.le_of_ble_eq_true rfl) dX6_readLine_98 (fun H locs hw => ?_)
        obtain ⟨h18, e, hf⟩ := ob hf
        refine q_putIN e B hw fd_8_4.1 fd_8_4.2.1 fd_8_4.2.2.1 fd_8_4.2.2.2.1 fd_8_4.2.2.2.2 rfl rfl (tyX8_ok 4 (by decide)) tyX8 tyX8_ok nmX8 tw_1_67 dX6_readLine_101 (fun H locs hw => ?_)
        refine lv_aload_n hx hb dX6_readLine_104 rfl (lv_at hl 0 rfl) ?_
        obtain ⟨x19, e, hf⟩ := ob hf
        refine q_getI e B hw fd_6_0.1 fd_6_0.2.1 fd_6_0.2.2.1 fd_6_0.2.2.2.1 fd_6_0.2.2.2.2 rfl tw_1_103 dX6_readLine_105 ?_
        refine lv_if_ne (tgt := 122) hx hb dX6_readLine_108 (by decide) (fun c20 => ?_) (fun c20 => ?_)
        · have hf := (if_neg c20).symm.trans hf
          refine lv_iconst (v := 0) hx hb dX6_readLine_122 (by decide) ?_
          obtain ⟨rfl, rfl, rfl⟩ := so3 hf
          exact q_zret (Or.inl rfl) B hw hM.hz hM.hc0 hr hlk dX6_readLine_123
        · have hf := (if_pos c20).symm.trans hf
          refine lv_aload_n hx hb dX6_readLine_111 rfl (lv_at hl 0 rfl) ?_
          obtain ⟨⟨x21, h22⟩, e, hf⟩ := ob hf
          refine q_callV (As := []) (rest := []) (st1 := [.int x21]) (c_X6_endLine G e) B hw hM.hz hM.hc0 (k_X6_endLine e) (by decide) (ci := 6) rfl rfl my_X6_endLine mv_X6_endLine tw_3_77 ⟨Nat.le_of_ble_eq_true rfl, Nat.le_of_ble_eq_true rfl⟩ hM.hcs rfl hl.1 rfl rfl (Nat.le_of_ble_eq_true rfl) dX6_readLine_112 (fun H locs hw => ?_)
          refine lv_if_eq (tgt := 122) hx hb dX6_readLine_115 (by decide) (fun c23 => ?_) (fun c23 => ?_)
          · have hf := (if_pos c23).symm.trans hf
            refine lv_iconst (v := 0) hx hb dX6_readLine_122 (by decide) ?_
            obtain ⟨rfl, rfl, rfl⟩ := so3 hf
            exact q_zret (Or.inl rfl) B hw hM.hz hM.hc0 hr hlk dX6_readLine_123
          · have hf := (if_neg c23).symm.trans hf
            refine lv_iconst (v := 1) hx hb dX6_readLine_118 (by decide) ?_
            refine lv_goto (tgt := 123) hx hb dX6_readLine_119 (by decide) ?_
            obtain ⟨rfl, rfl, rfl⟩ := so3 hf
            exact q_zret (Or.inr rfl) B hw hM.hz hM.hc0 hr hlk dX6_readLine_123
    · have hf := (if_neg c4).symm.trans hf
      refine lv_aload_n hx hb dX6_readLine_38 rfl (lv_at hl 0 rfl) ?_
      obtain ⟨h24, e, hf⟩ := ob hf
      refine q_callV (As := []) (rest := []) (st1 := []) (c_X6_next G e) B hw hM.hz hM.hc0 (k_X6_next e) (by decide) (ci := 6) rfl rfl my_X6_next mv_X6_next tw_2_171 ⟨Nat.le_of_ble_eq_true rfl, Nat.le_of_ble_eq_true rfl⟩ hM.hcs rfl hl.1 rfl rfl (Nat.le_of_ble_eq_true rfl) dX6_readLine_39 (fun H locs hw => ?_)
      refine lv_aload_n hx hb dX6_readLine_42 rfl (lv_at hl 0 rfl) ?_
      obtain ⟨a25, e, hf⟩ := ob hf
      refine q_getR e B hw fd_6_8.1 fd_6_8.2.1 fd_6_8.2.2.1 fd_6_8.2.2.2.1 fd_6_8.2.2.2.2 rfl tw_1_113 dX6_readLine_43 ?_
      refine lv_aload_n hx hb dX6_readLine_46 rfl (lv_at hl 0 rfl) ?_
      refine lv_iconst (v := 0) hx hb dX6_readLine_47 (by decide) ?_
      refine lv_sipush (v := 999) hx hb dX6_readLine_48 (by decide) ?_
      obtain ⟨⟨x26, h27⟩, e, hf⟩ := ob hf
      refine q_callV (As := [.int 0, .int 999]) (rest := [.ref a25]) (st1 := [.int x26, .ref a25]) (c_X6_takeNumber G e) B hw hM.hz hM.hc0 (k_X6_takeNumber e) (by decide) (ci := 6) rfl rfl my_X6_takeNumber mv_X6_takeNumber tw_3_72 ⟨Nat.le_of_ble_eq_true rfl, Nat.le_of_ble_eq_true rfl⟩ hM.hcs rfl hl.1 rfl rfl (Nat.le_of_ble_eq_true rfl) dX6_readLine_51 (fun H locs hw => ?_)
      obtain ⟨h28, e, hf⟩ := ob hf
      refine q_putIN e B hw fd_8_3.1 fd_8_3.2.1 fd_8_3.2.2.1 fd_8_3.2.2.2.1 fd_8_3.2.2.2.2 rfl rfl (tyX8_ok 3 (by decide)) tyX8 tyX8_ok nmX8 tw_1_65 dX6_readLine_54 (fun H locs hw => ?_)
      refine lv_aload_n hx hb dX6_readLine_57 rfl (lv_at hl 0 rfl) ?_
      obtain ⟨x29, e, hf⟩ := ob hf
      refine q_getI e B hw fd_6_0.1 fd_6_0.2.1 fd_6_0.2.2.1 fd_6_0.2.2.2.1 fd_6_0.2.2.2.2 rfl tw_1_103 dX6_readLine_58 ?_
      refine lv_if_ne (tgt := 75) hx hb dX6_readLine_61 (by decide) (fun c30 => ?_) (fun c30 => ?_)
      · have hf := (if_neg c30).symm.trans hf
        refine lv_iconst (v := 0) hx hb dX6_readLine_75 (by decide) ?_
        obtain ⟨rfl, rfl, rfl⟩ := so3 hf
        exact q_zret (Or.inl rfl) B hw hM.hz hM.hc0 hr hlk dX6_readLine_76
      · have hf := (if_pos c30).symm.trans hf
        refine lv_aload_n hx hb dX6_readLine_64 rfl (lv_at hl 0 rfl) ?_
        obtain ⟨⟨x31, h32⟩, e, hf⟩ := ob hf
        refine q_callV (As := []) (rest := []) (st1 := [.int x31]) (c_X6_endLine G e) B hw hM.hz hM.hc0 (k_X6_endLine e) (by decide) (ci := 6) rfl rfl my_X6_endLine mv_X6_endLine tw_3_77 ⟨Nat.le_of_ble_eq_true rfl, Nat.le_of_ble_eq_true rfl⟩ hM.hcs rfl hl.1 rfl rfl (Nat.le_of_ble_eq_true rfl) dX6_readLine_65 (fun H locs hw => ?_)
        refine lv_if_eq (tgt := 75) hx hb dX6_readLine_68 (by decide) (fun c33 => ?_) (fun c33 => ?_)
        · have hf := (if_pos c33).symm.trans hf
          refine lv_iconst (v := 0) hx hb dX6_readLine_75 (by decide) ?_
          obtain ⟨rfl, rfl, rfl⟩ := so3 hf
          exact q_zret (Or.inl rfl) B hw hM.hz hM.hc0 hr hlk dX6_readLine_76
        · have hf := (if_neg c33).symm.trans hf
          refine lv_iconst (v := 1) hx hb dX6_readLine_71 (by decide) ?_
          refine lv_goto (tgt := 76) hx hb dX6_readLine_72 (by decide) ?_
          obtain ⟨rfl, rfl, rfl⟩ := so3 hf
          exact q_zret (Or.inr rfl) B hw hM.hz hM.hc0 hr hlk dX6_readLine_76
  · have hf := (if_neg c2).symm.trans hf
    refine lv_aload_n hx hb dX6_readLine_9 rfl (lv_at hl 0 rfl) ?_
    obtain ⟨⟨x34, h35⟩, e, hf⟩ := ob hf
    refine q_callV (As := []) (rest := []) (st1 := [.int x34]) (c_X6_readPerson G e) B hw hM.hz hM.hc0 (k_X6_readPerson e) (by decide) (ci := 6) rfl rfl my_X6_readPerson mv_X6_readPerson tw_3_87 ⟨Nat.le_of_ble_eq_true rfl, Nat.le_of_ble_eq_true rfl⟩ hM.hcs rfl hl.1 rfl rfl (Nat.le_of_ble_eq_true rfl) dX6_readLine_10 (fun H locs hw => ?_)
    refine lv_if_eq (tgt := 27) hx hb dX6_readLine_13 (by decide) (fun c36 => ?_) (fun c36 => ?_)
    · have hf := (if_pos c36).symm.trans hf
      refine lv_iconst (v := 0) hx hb dX6_readLine_27 (by decide) ?_
      obtain ⟨rfl, rfl, rfl⟩ := so3 hf
      exact q_zret (Or.inl rfl) B hw hM.hz hM.hc0 hr hlk dX6_readLine_28
    · have hf := (if_neg c36).symm.trans hf
      refine lv_aload_n hx hb dX6_readLine_16 rfl (lv_at hl 0 rfl) ?_
      obtain ⟨⟨x37, h38⟩, e, hf⟩ := ob hf
      refine q_callV (As := []) (rest := []) (st1 := [.int x37]) (c_X6_endLine G e) B hw hM.hz hM.hc0 (k_X6_endLine e) (by decide) (ci := 6) rfl rfl my_X6_endLine mv_X6_endLine tw_3_77 ⟨Nat.le_of_ble_eq_true rfl, Nat.le_of_ble_eq_true rfl⟩ hM.hcs rfl hl.1 rfl rfl (Nat.le_of_ble_eq_true rfl) dX6_readLine_17 (fun H locs hw => ?_)
      refine lv_if_eq (tgt := 27) hx hb dX6_readLine_20 (by decide) (fun c39 => ?_) (fun c39 => ?_)
      · have hf := (if_pos c39).symm.trans hf
        refine lv_iconst (v := 0) hx hb dX6_readLine_27 (by decide) ?_
        obtain ⟨rfl, rfl, rfl⟩ := so3 hf
        exact q_zret (Or.inl rfl) B hw hM.hz hM.hc0 hr hlk dX6_readLine_28
      · have hf := (if_neg c39).symm.trans hf
        refine lv_iconst (v := 1) hx hb dX6_readLine_23 (by decide) ?_
        refine lv_goto (tgt := 28) hx hb dX6_readLine_24 (by decide) ?_
        obtain ⟨rfl, rfl, rfl⟩ := so3 hf
        exact q_zret (Or.inr rfl) B hw hM.hz hM.hc0 hr hlk dX6_readLine_28
/-! SecondLife$Reader.read([BI)LSecondLife$Town; -/
def f_X6_read_77 (n : Nat)  (z : Sh) (h : Hp) (v0 : Nat) (v3 : Int32) : Option (Option Nat × Hp × Sh) :=
  if v3 = 0 then
    some (none, h, z)
  else
    (gR z h 6 v0 8).bind fun a2 =>
    some ((some a2), h, z)
def f_X6_read_48 (n : Nat)  : Nat → Sh → Hp → Nat → Int32 → Int32 → Int32 → Option (Option Nat × Hp × Sh)
  | 0, _, _, _, _, _, _ => none
  | i + 1, z, h, v0, v2, v3, v4 =>
    if v2 ≤ v4 then
      f_X6_read_77 n z h v0 v3
    else
      if v3 = 0 then
        f_X6_read_77 n z h v0 v3
      else
        (gI z h 6 v0 6).bind fun x3 =>
        if x3 = 3 then
          f_X6_read_77 n z h v0 v3
        else
          (f_X6_readLine n z h v0).bind fun (x5, h6, z7) =>
          gd3 z7 <|
          (some (v4 + 1)).bind fun x8 =>
          (f_X6_read_48 n i) z7 h6 v0 v2 x5 x8
def f_X6_read (n : Nat) (z : Sh) (h : Hp) (v0 : Nat) (v1 : Nat) (v2 : Int32) : Option (Option Nat × Hp × Sh) :=
  if z.K v0 = 6 then
    gd3 z <|
    (pR z h 6 v0 2 (some v1)).bind fun h1 =>
    (pI z h1 6 v0 3 v2).bind fun h2 =>
    (pI z h2 6 v0 5 0).bind fun h3 =>
    (pI z h3 6 v0 0 0).bind fun h4 =>
    (pI z h4 6 v0 1 (-1)).bind fun h5 =>
    (nwO z h5 8).bind fun (a6, h7, z8) =>
    gd3 z8 <|
    (f_X8_init z8 h7 a6).bind fun (h9, z10) =>
    gd3 z10 <|
    (pR z10 h9 6 v0 8 (some a6)).bind fun h11 =>
    (f_X6_next n z10 h11 v0).bind fun h12 =>
    (f_X6_readHead n z10 h12 v0).bind fun (x13, h14) =>
    f_X6_read_48 n n z10 h14 v0 v2 x13 0
  else none
theorem k_X6_read {n : Nat} {z : Sh} {h : Hp} {v0 : Nat} {v1 : Nat} {v2 : Int32} {w : Option Nat × Hp × Sh} (hf : f_X6_read n z h v0 v1 v2 = some w) : z.K v0 = 6 := by
  unfold f_X6_read at hf
  exact (if_some hf).1
theorem mo_X6_read {n : Nat} {z : Sh} {h : Hp} {v0 : Nat} {v1 : Nat} {v2 : Int32} {r : Option Nat} {h' : Hp} {zE : Sh} (hf : f_X6_read n z h v0 v1 v2 = some (r, h', zE)) : z.sz ≤ zE.sz ∧ z.sl ≤ zE.sl := by
  unfold f_X6_read at hf
  exact (gd3_some (if_some hf).2).1
set_option maxHeartbeats 4000000 in
theorem w_X6_read_77 {p : Program} {l : Launch} {e : Env} {s : State} {m : MethodId} {args : Array Value} {below : List Frame} {meth : Method} {c : Code} {s0 : State} {E : Ev} {z0 : Sh} {n : Nat} {r : Option Nat} {h' : Hp} {zE : Sh} (G : Gl s0 E) (B : Bd p s0 s E m c cX6_read 5 RX6) (hr : meth.sig.returnType = (some (.object "SecondLife$Town"))) (hlk : meth.locks = false) : ∀ (z : Sh) (h : Hp) (v0 : Nat) (v3 : Int32) (H : Heap) (locs : List Loc) (ls : Array Slot), Pw s0 s E z h H locs → Mo s0 s z0 z zE → lv_has ls 5 [(0, .ref v0), (3, .int v3)] → f_X6_read_77 n z h v0 v3 = some (r, h', zE) → W p l e (rmA 70 3800 z0 zE) s m args below meth c H locs (z.sz - z0.sz) (z.sl - z0.sl) (Zt below s0 E zE h' (some (va_rf r)) args s (zE.sz - z0.sz) (zE.sl - z0.sl)) (F0 m 77 ls []) := by
  have hx := B.1
  have hb := B.2.1
  intro z h v0 v3 H locs ls hw hM hl hf
  unfold f_X6_read_77 at hf
  refine lv_iload_n hx hb dX6_read_77 rfl (lv_at hl 1 rfl) ?_
  refine lv_if_eq (tgt := 88) hx hb dX6_read_78 (by decide) (fun c1 => ?_) (fun c1 => ?_)
  · have hf := (if_pos c1).symm.trans hf
    refine lv_null hx hb dX6_read_88 ?_
    obtain ⟨rfl, rfl, rfl⟩ := so3 hf
    exact q_aret (Or.inl ⟨_, rfl⟩) (Or.inl rfl) B hw hM.hz hM.hc0 hr hlk dX6_read_89
  · have hf := (if_neg c1).symm.trans hf
    refine lv_aload_n hx hb dX6_read_81 rfl (lv_at hl 0 rfl) ?_
    obtain ⟨a2, e, hf⟩ := ob hf
    refine q_getR e B hw fd_6_8.1 fd_6_8.2.1 fd_6_8.2.2.1 fd_6_8.2.2.2.1 fd_6_8.2.2.2.2 rfl tw_1_113 dX6_read_82 ?_
    refine lv_goto (tgt := 89) hx hb dX6_read_85 (by decide) ?_
    obtain ⟨rfl, rfl, rfl⟩ := so3 hf
    exact q_aret (Or.inl ⟨_, rfl⟩) (Or.inr ⟨_, rfl⟩) B hw hM.hz hM.hc0 hr hlk dX6_read_89
set_option maxHeartbeats 4000000 in
theorem w_X6_read_48 {p : Program} {l : Launch} {e : Env} {s : State} {m : MethodId} {args : Array Value} {below : List Frame} {meth : Method} {c : Code} {s0 : State} {E : Ev} {z0 : Sh} {n : Nat} {r : Option Nat} {h' : Hp} {zE : Sh} (G : Gl s0 E) (B : Bd p s0 s E m c cX6_read 5 RX6) (hr : meth.sig.returnType = (some (.object "SecondLife$Town"))) (hlk : meth.locks = false) : ∀ (i : Nat), ∀ (z : Sh) (h : Hp) (v0 : Nat) (v2 : Int32) (v3 : Int32) (v4 : Int32) (H : Heap) (locs : List Loc) (ls : Array Slot), Pw s0 s E z h H locs → Mo s0 s z0 z zE → lv_has ls 5 [(0, .ref v0), (2, .int v2), (3, .int v3), (4, .int v4)] → f_X6_read_48 n i z h v0 v2 v3 v4 = some (r, h', zE) → W p l e (rmA 70 3800 z0 zE) s m args below meth c H locs (z.sz - z0.sz) (z.sl - z0.sl) (Zt below s0 E zE h' (some (va_rf r)) args s (zE.sz - z0.sz) (zE.sl - z0.sl)) (F0 m 48 ls []) := by
  have hx := B.1
  have hb := B.2.1
  intro i
  induction i with
  | zero =>
    intro z h v0 v2 v3 v4 H locs ls hw hM hl hf
    have hf := (f_X6_read_48.eq_1 ..).symm.trans hf
    cases hf
  | succ i ih =>
    intro z h v0 v2 v3 v4 H locs ls hw hM hl hf
    have hf := (f_X6_read_48.eq_2 ..).symm.trans hf
    refine lv_iload hx hb dX6_read_48 (lv_at hl 3 rfl) ?_
    refine lv_iload_n hx hb dX6_read_50 rfl (lv_at hl 1 rfl) ?_
    refine lv_icmp_ge (tgt := 77) hx hb dX6_read_51 (by decide) (fun c1 => ?_) (fun c1 => ?_)
    · have hf := (if_pos c1).symm.trans hf
      exact w_X6_read_77 G B hr hlk  z h v0 v3 _ _ _ hw hM (lv_sub hl [0, 2] rfl) hf
    · have hf := (if_neg c1).symm.trans hf
      refine lv_iload_n hx hb dX6_read_54 rfl (lv_at hl 2 rfl) ?_
      refine lv_if_eq (tgt := 77) hx hb dX6_read_55 (by decide) (fun c2 => ?_) (fun c2 => ?_)
      · have hf := (if_pos c2).symm.trans hf
        exact w_X6_read_77 G B hr hlk  z h v0 v3 _ _ _ hw hM (lv_sub hl [0, 2] rfl) hf
      · have hf := (if_neg c2).symm.trans hf
        refine lv_aload_n hx hb dX6_read_58 rfl (lv_at hl 0 rfl) ?_
        obtain ⟨x3, e, hf⟩ := ob hf
        refine q_getI e B hw fd_6_6.1 fd_6_6.2.1 fd_6_6.2.2.1 fd_6_6.2.2.2.1 fd_6_6.2.2.2.2 rfl tw_1_111 dX6_read_59 ?_
        refine lv_iconst (v := 3) hx hb dX6_read_62 (by decide) ?_
        refine lv_icmp_eq (tgt := 77) hx hb dX6_read_63 (by decide) (fun c4 => ?_) (fun c4 => ?_)
        · have hf := (if_pos c4).symm.trans hf
          exact w_X6_read_77 G B hr hlk  z h v0 v3 _ _ _ hw hM (lv_sub hl [0, 2] rfl) hf
        · have hf := (if_neg c4).symm.trans hf
          refine lv_aload_n hx hb dX6_read_66 rfl (lv_at hl 0 rfl) ?_
          obtain ⟨⟨x5, h6, z7⟩, e, hf⟩ := ob hf
          obtain ⟨hg, hf⟩ := gd3_some hf
          refine q_callVA (As := []) (rest := []) (st1 := [.int x5]) (c_X6_readLine G e) (mo_X6_readLine e) hg B hw hM (k_X6_readLine e) (by decide) (ci := 6) rfl rfl my_X6_readLine mv_X6_readLine tw_3_82 ⟨Nat.le_of_ble_eq_true rfl, Nat.le_of_ble_eq_true rfl⟩ rfl hl.1 rfl rfl (Nat.le_of_ble_eq_true rfl) dX6_read_67 (fun H locs hw hM => ?_)
          refine lv_istore_n (lv' := [(3, .int x5), (0, .ref v0), (2, .int v2), (4, .int v4)]) hx hb dX6_read_70 rfl hl (by decide) rfl (fun ls hl => ?_)
          obtain ⟨x8, e, hf⟩ := ob hf
          refine lv_iinc (v := x8) (lv' := [(4, .int x8), (3, .int x5), (0, .ref v0), (2, .int v2)]) hx hb dX6_read_71 hl (k := 3) rfl (Option.some.inj e) (by decide) rfl (fun ls hl => ?_)
          refine lv_goto (tgt := 48) hx hb dX6_read_74 (by decide) ?_
          exact ih z7 h6 v0 v2 x5 x8 _ _ _ hw hM (lv_sub hl [2, 3, 1, 0] rfl) hf
set_option maxHeartbeats 4000000 in
theorem c_X6_read {l : Launch} {s0 : State} {E : Ev} (G : Gl s0 E) {n : Nat} {z : Sh} {h : Hp} {v0 : Nat} {v1 : Nat} {v2 : Int32} {r : Option Nat} {h' : Hp} {zE : Sh} (hf : f_X6_read n z h v0 v1 v2 = some (r, h', zE)) : Ca l s0 E yX6_read cX6_read 5 (some (.object "SecondLife$Town")) 70 3800 [.ref v0, .ref v1, .int v2] z zE h h' (some (va_rf r)) := by
  refine Ca.of G (by decide +kernel) (Nat.le_of_ble_eq_true rfl) (mo_X6_read hf) ?_
  intro p e s m below meth c ls B hw hM hr hlk hnm0 hl
  have B : Bd p s0 s E m c cX6_read 5 RX6 := B
  have hx := B.1
  have hb := B.2.1
  have hl : lv_has ls 5 [(0, .ref v0), (1, .ref v1), (2, .int v2)] := hl
  unfold f_X6_read at hf
  obtain ⟨_, hf⟩ := if_some hf
  obtain ⟨_, hf⟩ := gd3_some hf
  refine lv_aload_n hx hb dX6_read_0 rfl (lv_at hl 0 rfl) ?_
  refine lv_aload_n hx hb dX6_read_1 rfl (lv_at hl 1 rfl) ?_
  obtain ⟨h1, e, hf⟩ := ob hf
  refine q_putR e B hw fd_6_2.1 fd_6_2.2.1 fd_6_2.2.2.1 fd_6_2.2.2.2.1 fd_6_2.2.2.2.2 rfl rfl (tyX6_ok 2 (by decide)) (Or.inr ⟨_, rfl⟩) tyX6 tyX6_ok nmX6 tw_1_107 dX6_read_2 (fun H locs hw => ?_)
  refine lv_aload_n hx hb dX6_read_5 rfl (lv_at hl 0 rfl) ?_
  refine lv_iload_n hx hb dX6_read_6 rfl (lv_at hl 2 rfl) ?_
  obtain ⟨h2, e, hf⟩ := ob hf
  refine q_putI e B hw fd_6_3.1 fd_6_3.2.1 fd_6_3.2.2.1 fd_6_3.2.2.2.1 fd_6_3.2.2.2.2 rfl rfl (tyX6_ok 3 (by decide)) tyX6 tyX6_ok nmX6 tw_1_108 dX6_read_7 (fun H locs hw => ?_)
  refine lv_aload_n hx hb dX6_read_10 rfl (lv_at hl 0 rfl) ?_
  refine lv_iconst (v := 0) hx hb dX6_read_11 (by decide) ?_
  obtain ⟨h3, e, hf⟩ := ob hf
  refine q_putI e B hw fd_6_5.1 fd_6_5.2.1 fd_6_5.2.2.1 fd_6_5.2.2.2.1 fd_6_5.2.2.2.2 rfl rfl (tyX6_ok 5 (by decide)) tyX6 tyX6_ok nmX6 tw_1_110 dX6_read_12 (fun H locs hw => ?_)
  refine lv_aload_n hx hb dX6_read_15 rfl (lv_at hl 0 rfl) ?_
  refine lv_iconst (v := 0) hx hb dX6_read_16 (by decide) ?_
  obtain ⟨h4, e, hf⟩ := ob hf
  refine q_putI e B hw fd_6_0.1 fd_6_0.2.1 fd_6_0.2.2.1 fd_6_0.2.2.2.1 fd_6_0.2.2.2.2 rfl rfl (tyX6_ok 0 (by decide)) tyX6 tyX6_ok nmX6 tw_1_103 dX6_read_17 (fun H locs hw => ?_)
  refine lv_aload_n hx hb dX6_read_20 rfl (lv_at hl 0 rfl) ?_
  refine lv_iconst (v := (-1)) hx hb dX6_read_21 (by decide) ?_
  obtain ⟨h5, e, hf⟩ := ob hf
  refine q_putI e B hw fd_6_1.1 fd_6_1.2.1 fd_6_1.2.2.1 fd_6_1.2.2.2.1 fd_6_1.2.2.2.2 rfl rfl (tyX6_ok 1 (by decide)) tyX6 tyX6_ok nmX6 tw_1_105 dX6_read_22 (fun H locs hw => ?_)
  refine lv_aload_n hx hb dX6_read_25 rfl (lv_at hl 0 rfl) ?_
  obtain ⟨⟨a6, h7, z8⟩, e, hf⟩ := ob hf
  obtain ⟨hg, hf⟩ := gd3_some hf
  refine q_newO e hg B hw hM (by decide) (ci := 8) rfl rfl tyX8 tyX8_ok dfX8 tw_1_37 tw_1_38 tw_1_3 dX6_read_26 (fun H locs hw hM => ?_)
  refine lv_dup hx hb dX6_read_29 rfl ?_
  obtain ⟨⟨h9, z10⟩, e, hf⟩ := ob hf
  obtain ⟨hg, hf⟩ := gd3_some hf
  refine q_callINA (As := []) (rest := [.ref a6, .ref v0]) (c_X8_init G e) (mo_X8_init e) hg B hw hM rfl my_X8_init mv_X8_init tw_1_39 ⟨Nat.le_of_ble_eq_true rfl, Nat.le_of_ble_eq_true rfl⟩ rfl hl.1 rfl (Nat.le_of_ble_eq_true rfl) dX6_read_30 (fun H locs hw hM => ?_)
  obtain ⟨h11, e, hf⟩ := ob hf
  refine q_putR e B hw fd_6_8.1 fd_6_8.2.1 fd_6_8.2.2.1 fd_6_8.2.2.2.1 fd_6_8.2.2.2.2 rfl rfl (tyX6_ok 8 (by decide)) (Or.inl ⟨_, rfl⟩) tyX6 tyX6_ok nmX6 tw_1_113 dX6_read_33 (fun H locs hw => ?_)
  refine lv_aload_n hx hb dX6_read_36 rfl (lv_at hl 0 rfl) ?_
  obtain ⟨h12, e, hf⟩ := ob hf
  refine q_callV (As := []) (rest := []) (st1 := []) (c_X6_next G e) B hw hM.hz hM.hc0 (k_X6_next e) (by decide) (ci := 6) rfl rfl my_X6_next mv_X6_next tw_2_171 ⟨Nat.le_of_ble_eq_true rfl, Nat.le_of_ble_eq_true rfl⟩ hM.hcs rfl hl.1 rfl rfl (Nat.le_of_ble_eq_true rfl) dX6_read_37 (fun H locs hw => ?_)
  refine lv_aload_n hx hb dX6_read_40 rfl (lv_at hl 0 rfl) ?_
  obtain ⟨⟨x13, h14⟩, e, hf⟩ := ob hf
  refine q_callV (As := []) (rest := []) (st1 := [.int x13]) (c_X6_readHead G e) B hw hM.hz hM.hc0 (k_X6_readHead e) (by decide) (ci := 6) rfl rfl my_X6_readHead mv_X6_readHead tw_3_33 ⟨Nat.le_of_ble_eq_true rfl, Nat.le_of_ble_eq_true rfl⟩ hM.hcs rfl hl.1 rfl rfl (Nat.le_of_ble_eq_true rfl) dX6_read_41 (fun H locs hw => ?_)
  refine lv_istore_n (lv' := [(3, .int x13), (0, .ref v0), (1, .ref v1), (2, .int v2)]) hx hb dX6_read_44 rfl hl (by decide) rfl (fun ls hl => ?_)
  refine lv_iconst (v := 0) hx hb dX6_read_45 (by decide) ?_
  refine lv_istore (lv' := [(4, .int 0), (3, .int x13), (0, .ref v0), (1, .ref v1), (2, .int v2)]) hx hb dX6_read_46 hl (by decide) rfl (fun ls hl => ?_)
  exact w_X6_read_48 G B hr hlk  n z10 h14 v0 v2 x13 0 _ _ _ hw hM (lv_sub hl [2, 4, 1, 0] rfl) hf
/-! SecondLife.town(I)I -/
def f_X11_town_12 (n : Nat)  (z : Sh) (h : Hp) : Option (Int32 × Hp × Sh) :=
  (f_X11_refused z h 3).bind fun x1 =>
  some (x1, h, z)
def f_X11_town (n : Nat) (z : Sh) (h : Hp) (v0 : Nat) (v1 : Int32) : Option (Int32 × Hp × Sh) :=
  if z.K v0 = 11 then
    gd3 z <|
    if v1 < 0 then
      f_X11_town_12 n z h
    else
      (gI z h 11 v0 1).bind fun x2 =>
      if v1 ≤ x2 then
        (pI z h 11 v0 1 0).bind fun h4 =>
        (gR z h4 11 v0 2).bind fun a5 =>
        (gR z h4 11 v0 0).bind fun a6 =>
        (f_X6_read n z h4 a5 a6 v1).bind fun (o7, h8, z9) =>
        gd3 z9 <|
        (match o7 with
        | none =>
          (gR z9 h8 11 v0 2).bind fun a11 =>
          (gI z9 h8 6 a11 0).bind fun x12 =>
          (f_X11_refused z9 h8 (30 + x12)).bind fun x13 =>
          some (x13, h8, z9)
        | some a10 =>
          (pR z9 h8 11 v0 3 (some a10)).bind fun h14 =>
          (gR z9 h14 11 v0 4).bind fun a15 =>
          (f_X5_settle n z9 h14 a15 a10).bind fun h16 =>
          (gR z9 h16 11 v0 6).bind fun a17 =>
          (f_X4_forget z9 h16 a17).bind fun h18 =>
          (gI z9 h18 8 a10 5).bind fun x19 =>
          some (x19, h18, z9))
      else
        f_X11_town_12 n z h
  else none
theorem k_X11_town {n : Nat} {z : Sh} {h : Hp} {v0 : Nat} {v1 : Int32} {w : Int32 × Hp × Sh} (hf : f_X11_town n z h v0 v1 = some w) : z.K v0 = 11 := by
  unfold f_X11_town at hf
  exact (if_some hf).1
theorem mo_X11_town {n : Nat} {z : Sh} {h : Hp} {v0 : Nat} {v1 : Int32} {r : Int32} {h' : Hp} {zE : Sh} (hf : f_X11_town n z h v0 v1 = some (r, h', zE)) : z.sz ≤ zE.sz ∧ z.sl ≤ zE.sl := by
  unfold f_X11_town at hf
  exact (gd3_some (if_some hf).2).1
set_option maxHeartbeats 4000000 in
theorem w_X11_town_12 {p : Program} {l : Launch} {e : Env} {s : State} {m : MethodId} {args : Array Value} {below : List Frame} {meth : Method} {c : Code} {s0 : State} {E : Ev} {z0 : Sh} {n : Nat} {r : Int32} {h' : Hp} {zE : Sh} (G : Gl s0 E) (B : Bd p s0 s E m c cX11_town 3 RX11) (hr : meth.sig.returnType = (some .int)) (hlk : meth.locks = false) : ∀ (z : Sh) (h : Hp) (H : Heap) (locs : List Loc) (ls : Array Slot), Pw s0 s E z h H locs → Mo s0 s z0 z zE → lv_has ls 3 [] → f_X11_town_12 n z h = some (r, h', zE) → W p l e (rmA 71 3824 z0 zE) s m args below meth c H locs (z.sz - z0.sz) (z.sl - z0.sl) (Zt below s0 E zE h' (some (.int r)) args s (zE.sz - z0.sz) (zE.sl - z0.sl)) (F0 m 12 ls []) := by
  have hx := B.1
  have hb := B.2.1
  intro z h H locs ls hw hM hl hf
  unfold f_X11_town_12 at hf
  refine lv_iconst (v := 3) hx hb dX11_town_12 (by decide) ?_
  obtain ⟨x1, e, hf⟩ := ob hf
  refine q_callS (As := [.int 3]) (rest := []) (st1 := [.int x1]) (c_X11_refused G e) B hw hM.hz hM.hc0 my_X11_refused mv_X11_refused tw_2_155 ⟨Nat.le_of_ble_eq_true rfl, Nat.le_of_ble_eq_true rfl⟩ hM.hcs rfl hl.1 rfl rfl (Nat.le_of_ble_eq_true rfl) dX11_town_13 (fun H locs hw => ?_)
  obtain ⟨rfl, rfl, rfl⟩ := so3 hf
  exact q_iret B hw hM.hz hM.hc0 hr hlk dX11_town_16
set_option maxHeartbeats 4000000 in
theorem c_X11_town {l : Launch} {s0 : State} {E : Ev} (G : Gl s0 E) {n : Nat} {z : Sh} {h : Hp} {v0 : Nat} {v1 : Int32} {r : Int32} {h' : Hp} {zE : Sh} (hf : f_X11_town n z h v0 v1 = some (r, h', zE)) : Ca l s0 E yX11_town cX11_town 3 (some .int) 71 3824 [.ref v0, .int v1] z zE h h' (some (.int r)) := by
  refine Ca.of G (by decide +kernel) (Nat.le_of_ble_eq_true rfl) (mo_X11_town hf) ?_
  intro p e s m below meth c ls B hw hM hr hlk hnm0 hl
  have B : Bd p s0 s E m c cX11_town 3 RX11 := B
  have hx := B.1
  have hb := B.2.1
  have hl : lv_has ls 3 [(0, .ref v0), (1, .int v1)] := hl
  unfold f_X11_town at hf
  obtain ⟨_, hf⟩ := if_some hf
  obtain ⟨_, hf⟩ := gd3_some hf
  refine lv_iload_n hx hb dX11_town_0 rfl (lv_at hl 1 rfl) ?_
  refine lv_if_lt (tgt := 12) hx hb dX11_town_1 (by decide) (fun c1 => ?_) (fun c1 => ?_)
  · have hf := (if_pos c1).symm.trans hf
    exact w_X11_town_12 G B hr hlk  z h _ _ _ hw hM (lv_sub hl [] rfl) hf
  · have hf := (if_neg c1).symm.trans hf
    refine lv_iload_n hx hb dX11_town_4 rfl (lv_at hl 1 rfl) ?_
    refine lv_aload_n hx hb dX11_town_5 rfl (lv_at hl 0 rfl) ?_
    obtain ⟨x2, e, hf⟩ := ob hf
    refine q_getI e B hw fd_11_1.1 fd_11_1.2.1 fd_11_1.2.2.1 fd_11_1.2.2.2.1 fd_11_1.2.2.2.2 rfl tw_2_103 dX11_town_6 ?_
    refine lv_icmp_le (tgt := 17) hx hb dX11_town_9 (by decide) (fun c3 => ?_) (fun c3 => ?_)
    · have hf := (if_pos c3).symm.trans hf
      refine lv_aload_n hx hb dX11_town_17 rfl (lv_at hl 0 rfl) ?_
      refine lv_iconst (v := 0) hx hb dX11_town_18 (by decide) ?_
      obtain ⟨h4, e, hf⟩ := ob hf
      refine q_putI e B hw fd_11_1.1 fd_11_1.2.1 fd_11_1.2.2.1 fd_11_1.2.2.2.1 fd_11_1.2.2.2.2 rfl rfl (tyX11_ok 1 (by decide)) tyX11 tyX11_ok nmX11 tw_2_103 dX11_town_19 (fun H locs hw => ?_)
      refine lv_aload_n hx hb dX11_town_22 rfl (lv_at hl 0 rfl) ?_
      obtain ⟨a5, e, hf⟩ := ob hf
      refine q_getR e B hw fd_11_2.1 fd_11_2.2.1 fd_11_2.2.2.1 fd_11_2.2.2.2.1 fd_11_2.2.2.2.2 rfl tw_2_104 dX11_town_23 ?_
      refine lv_aload_n hx hb dX11_town_26 rfl (lv_at hl 0 rfl) ?_
      obtain ⟨a6, e, hf⟩ := ob hf
      refine q_getR e B hw fd_11_0.1 fd_11_0.2.1 fd_11_0.2.2.1 fd_11_0.2.2.2.1 fd_11_0.2.2.2.2 rfl tw_2_102 dX11_town_27 ?_
      refine lv_iload_n hx hb dX11_town_30 rfl (lv_at hl 1 rfl) ?_
      obtain ⟨⟨o7, h8, z9⟩, e, hf⟩ := ob hf
      obtain ⟨hg, hf⟩ := gd3_some hf
      refine q_callVNA (As := [.ref a6, .int v1]) (rest := []) (st1 := [va_rf o7]) (c_X6_read G e) (mo_X6_read e) hg B hw hM (k_X6_read e) (by decide) (ci := 6) rfl rfl my_X6_read mv_X6_read tw_2_167 ⟨Nat.le_of_ble_eq_true rfl, Nat.le_of_ble_eq_true rfl⟩ rfl hl.1 rfl rfl (Nat.le_of_ble_eq_true rfl) dX11_town_31 (fun H locs hw hM => ?_)
      rcases o7 with _ | a10
      · refine lv_astore_nN (lv' := [(2, .null), (0, .ref v0), (1, .int v1)]) hx hb dX11_town_34 rfl hl (by decide) rfl (fun ls hl => ?_)
        refine lv_aload_nN hx hb dX11_town_35 rfl (lv_at hl 0 rfl) ?_
        refine lv_ifnonnullN hx hb dX11_town_36 ?_
        refine lv_bipush (v := 30) hx hb dX11_town_39 (by decide) ?_
        refine lv_aload_n hx hb dX11_town_41 rfl (lv_at hl 1 rfl) ?_
        obtain ⟨a11, e, hf⟩ := ob hf
        refine q_getR e B hw fd_11_2.1 fd_11_2.2.1 fd_11_2.2.2.1 fd_11_2.2.2.2.1 fd_11_2.2.2.2.2 rfl tw_2_104 dX11_town_42 ?_
        obtain ⟨x12, e, hf⟩ := ob hf
        refine q_getIN e B hw fd_6_0.1 fd_6_0.2.1 fd_6_0.2.2.1 fd_6_0.2.2.2.1 fd_6_0.2.2.2.2 rfl tw_1_104 dX11_town_45 ?_
        refine lv_iadd hx hb dX11_town_48 ?_
        obtain ⟨x13, e, hf⟩ := ob hf
        refine q_callS (As := [.int (30 + x12)]) (rest := []) (st1 := [.int x13]) (c_X11_refused G e) B hw hM.hz hM.hc0 my_X11_refused mv_X11_refused tw_2_155 ⟨Nat.le_of_ble_eq_true rfl, Nat.le_of_ble_eq_true rfl⟩ hM.hcs rfl hl.1 rfl rfl (Nat.le_of_ble_eq_true rfl) dX11_town_49 (fun H locs hw => ?_)
        obtain ⟨rfl, rfl, rfl⟩ := so3 hf
        exact q_iret B hw hM.hz hM.hc0 hr hlk dX11_town_52
      · refine lv_astore_n (lv' := [(2, .ref a10), (0, .ref v0), (1, .int v1)]) hx hb dX11_town_34 rfl hl (by decide) rfl (fun ls hl => ?_)
        refine lv_aload_n hx hb dX11_town_35 rfl (lv_at hl 0 rfl) ?_
        refine lv_ifnonnull (tgt := 53) hx hb dX11_town_36 (by decide) ?_
        refine lv_aload_n hx hb dX11_town_53 rfl (lv_at hl 1 rfl) ?_
        refine lv_aload_n hx hb dX11_town_54 rfl (lv_at hl 0 rfl) ?_
        obtain ⟨h14, e, hf⟩ := ob hf
        refine q_putR e B hw fd_11_3.1 fd_11_3.2.1 fd_11_3.2.2.1 fd_11_3.2.2.2.1 fd_11_3.2.2.2.2 rfl rfl (tyX11_ok 3 (by decide)) (Or.inl ⟨_, rfl⟩) tyX11 tyX11_ok nmX11 tw_2_105 dX11_town_55 (fun H locs hw => ?_)
        refine lv_aload_n hx hb dX11_town_58 rfl (lv_at hl 1 rfl) ?_
        obtain ⟨a15, e, hf⟩ := ob hf
        refine q_getR e B hw fd_11_4.1 fd_11_4.2.1 fd_11_4.2.2.1 fd_11_4.2.2.2.1 fd_11_4.2.2.2.2 rfl tw_2_106 dX11_town_59 ?_
        refine lv_aload_n hx hb dX11_town_62 rfl (lv_at hl 0 rfl) ?_
        obtain ⟨h16, e, hf⟩ := ob hf
        refine q_callVN (As := [.ref a10]) (rest := []) (st1 := []) (c_X5_settle G e) B hw hM.hz hM.hc0 (k_X5_settle e) (by decide) (ci := 5) rfl rfl my_X5_settle mv_X5_settle tw_3_179 ⟨Nat.le_of_ble_eq_true rfl, Nat.le_of_ble_eq_true rfl⟩ hM.hcs rfl hl.1 rfl rfl (Nat.le_of_ble_eq_true rfl) dX11_town_63 (fun H locs hw => ?_)
        refine lv_aload_n hx hb dX11_town_66 rfl (lv_at hl 1 rfl) ?_
        obtain ⟨a17, e, hf⟩ := ob hf
        refine q_getR e B hw fd_11_6.1 fd_11_6.2.1 fd_11_6.2.2.1 fd_11_6.2.2.2.1 fd_11_6.2.2.2.2 rfl tw_2_108 dX11_town_67 ?_
        obtain ⟨h18, e, hf⟩ := ob hf
        refine q_callVN (As := []) (rest := []) (st1 := []) (c_X4_forget G e) B hw hM.hz hM.hc0 (k_X4_forget e) (by decide) (ci := 4) rfl rfl my_X4_forget mv_X4_forget tw_3_198 ⟨Nat.le_of_ble_eq_true rfl, Nat.le_of_ble_eq_true rfl⟩ hM.hcs rfl hl.1 rfl rfl (Nat.le_of_ble_eq_true rfl) dX11_town_70 (fun H locs hw => ?_)
        refine lv_aload_n hx hb dX11_town_73 rfl (lv_at hl 0 rfl) ?_
        obtain ⟨x19, e, hf⟩ := ob hf
        refine q_getIN e B hw fd_8_5.1 fd_8_5.2.1 fd_8_5.2.2.1 fd_8_5.2.2.2.1 fd_8_5.2.2.2.2 rfl tw_1_70 dX11_town_74 ?_
        obtain ⟨rfl, rfl, rfl⟩ := so3 hf
        exact q_iret B hw hM.hz hM.hc0 hr hlk dX11_town_77
    · have hf := (if_neg c3).symm.trans hf
      exact w_X11_town_12 G B hr hlk  z h _ _ _ hw hM (lv_sub hl [] rfl) hf
