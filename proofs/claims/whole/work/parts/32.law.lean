def f_law_it (n : Nat) (z0 : Sh) (L : Nat) (xs : Nat → Int32) (v1 v2 : Nat) (z : Sh) (h : Hp) (v3 : Int32) : Option (Hp × Sh) :=
  (sc L xs v3).bind fun x1 =>
  (some (x1 &&& 63)).bind fun x2 =>
  if x2 = 0 then f_law_204 n z0 L xs v1 v2 z h v3 else
  if x2 = 1 then f_law_267 n z0 L xs v1 v2 z h v3 else
  if x2 = 2 then f_law_290 n z0 L xs v1 v2 z h v3 else
  if x2 = 3 then f_law_313 n z0 L xs v1 v2 z h v3 else
  if x2 = 4 then f_law_346 n z0 L xs v1 v2 z h v3 else
  if x2 = 5 then f_law_379 n z0 L xs v1 v2 z h v3 else
  if x2 = 6 then f_law_402 n z0 L xs v1 v2 z h v3 else
  if x2 = 7 then f_law_435 n z0 L xs v1 v2 z h v3 else
  if x2 = 8 then f_law_458 n z0 L xs v1 v2 z h v3 else
  if x2 = 9 then f_law_491 n z0 L xs v1 v2 z h v3 else
  if x2 = 10 then f_law_514 n z0 L xs v1 v2 z h v3 else
  if x2 = 11 then f_law_547 n z0 L xs v1 v2 z h v3 else
  if x2 = 12 then f_law_570 n z0 L xs v1 v2 z h v3 else
  if x2 = 13 then f_law_603 n z0 L xs v1 v2 z h v3 else
  if x2 = 14 then f_law_626 n z0 L xs v1 v2 z h v3 else
  if x2 = 15 then f_law_659 n z0 L xs v1 v2 z h v3 else
  if x2 = 16 then f_law_682 n z0 L xs v1 v2 z h v3 else
  if x2 = 17 then f_law_715 n z0 L xs v1 v2 z h v3 else
  if x2 = 18 then f_law_738 n z0 L xs v1 v2 z h v3 else
  if x2 = 19 then f_law_762 n z0 L xs v1 v2 z h v3 else
  if x2 = 20 then f_law_795 n z0 L xs v1 v2 z h v3 else
  if x2 = 21 then f_law_829 n z0 L xs v1 v2 z h v3 else
  if x2 = 22 then f_law_852 n z0 L xs v1 v2 z h v3 else
  if x2 = 23 then f_law_875 n z0 L xs v1 v2 z h v3 else
  if x2 = 24 then f_law_919 n z0 L xs v1 v2 z h v3 else
  if x2 = 25 then f_law_952 n z0 L xs v1 v2 z h v3 else
  if x2 = 26 then f_law_995 n z0 L xs v1 v2 z h v3 else
  if x2 = 27 then f_law_1038 n z0 L xs v1 v2 z h v3 else
  if x2 = 28 then f_law_1061 n z0 L xs v1 v2 z h v3 else
  if x2 = 29 then f_law_1084 n z0 L xs v1 v2 z h v3 else
  if x2 = 30 then f_law_1107 n z0 L xs v1 v2 z h v3 else
  if x2 = 31 then f_law_1140 n z0 L xs v1 v2 z h v3 else
  if x2 = 32 then f_law_1153 n z0 L xs v1 v2 z h v3 else
  if x2 = 33 then f_law_1176 n z0 L xs v1 v2 z h v3 else
  if x2 = 34 then f_law_1219 n z0 L xs v1 v2 z h v3 else
  if x2 = 35 then f_law_1293 n z0 L xs v1 v2 z h v3 else
  if x2 = 36 then f_law_1326 n z0 L xs v1 v2 z h v3 else
  if x2 = 37 then f_law_1349 n z0 L xs v1 v2 z h v3 else
  if x2 = 38 then f_law_1372 n z0 L xs v1 v2 z h v3 else
  some (h, z)
def f_law_lp (n : Nat) (z0 : Sh) (L : Nat) (xs : Nat → Int32) (v1 v2 : Nat) : Nat → Sh → Hp → Int32 → Option Unit
  | 0, _, _, _ => none
  | t + 1, z, h, v3 =>
    if (Int32.ofNat L - 6) < v3 then some ()
    else (f_law_it n z0 L xs v1 v2 z h v3).bind fun (h2, z2) =>
      f_law_lp n z0 L xs v1 v2 t z2 h2 (v3 + 6)
def f_law (n : Nat) (z0 : Sh) (h : Hp) (L : Nat) (xs : Nat → Int32) : Option Unit :=
  (nwO z0 h 11).bind fun (a1, h2, z3) =>
  gdL z0 z3 <|
  (f_X11_init n z3 h2 a1).bind fun (h4, z5) =>
  gdL z0 z5 <|
  (nwO z5 h4 12).bind fun (a6, h7, z8) =>
  gdL z0 z8 <|
  (f_X12_init n z8 h7 a6).bind fun (h9, z10) =>
  gdL z0 z10 <|
  f_law_lp n z0 L xs a1 a6 n z10 h9 0
set_option maxHeartbeats 8000000 in
theorem w_law_18 {p : Program} {l : Launch} {e : Env} {s : State} {m : MethodId} {below : List Frame} {meth : Method} {c : Code} {E : Ev} {b L : Nat} {xs : Nat → Int32} {n : Nat} {z0 : Sh} (hL : L ≤ 3072) (C0 : lw_At p s m meth c b L xs) (G : Gl s E) (B : Bd p s s E m c cL_law 4 RL) {v1 v2 : Nat} : ∀ (t : Nat) (z : Sh) (h : Hp) (v3 : Int32) (H : Heap) (locs : List Loc) (ls : Array Slot), Pw s s E z h H locs → Mo s s z0 z (zLim z0) → lv_has ls 4 [(0, .ref b), (1, .ref v1), (2, .ref v2), (3, .int v3)] → f_law_lp n z0 L xs v1 v2 t z h v3 = some () → W p l e (rmA 2048 84000 z0 (zLim z0)) s m #[Value.ref b] below meth c H locs (z.sz - z0.sz) (z.sl - z0.sl) (lw_Z below #[Value.ref b] s) (F0 m 18 ls []) := by
  obtain ⟨hx, hb, hr, hml, hown, hts, hX, hbl, hlocks, hgv⟩ := id C0
  intro t
  induction t with
  | zero =>
    intro z h v3 H locs ls hw hM hl hf
    cases hf
  | succ t ih =>
    intro z h v3 H locs ls hw hM hl hf
    have hf := (f_law_lp.eq_2 ..).symm.trans hf
    refine lv_iload_n hx hb dL_law_18 rfl (lv_at hl 3 rfl) ?_
    refine lv_aload_n hx hb dL_law_19 rfl (lv_at hl 0 rfl) ?_
    refine va_slen hx hb hX hbl (fun q => Nat.not_le.mpr hbl q) hw.2.1 dL_law_20 ?_
    refine lv_bipush (v := 6) hx hb dL_law_21 (by decide) ?_
    refine lv_isub hx hb dL_law_23 ?_
    refine lv_icmp_gt (tgt := 1401) hx hb dL_law_24 (by decide) (fun c1 => ?_) (fun c1 => ?_)
    · refine lv_iconst (v := 1) hx hb dL_law_1401 (by decide) ?_
      refine va_forget (fun q hq => hw.2.1.2.2 q hq) ?_
      have m1 := hM.1
      have m2 := hM.2.1
      have m3 := hM.2.2.1
      have m4 := hM.2.2.2.1
      have b1 : (zLim z0).sz = z0.sz + 600000 := rfl
      have b2 : (zLim z0).sl = z0.sl + 7302249 := rfl
      refine W.widen (k := 600000) (n := 7302249) (by omega) (by omega) ?_
      rw [rmL]
      exact lw_ret hx hb hr hlocks dL_law_1402
    · have hf := (if_neg c1).symm.trans hf
      obtain ⟨⟨h9, z9⟩, e9, hf⟩ := ob hf
      have hk : ∀ (H : Heap) (locs : List Loc) (ls : Array Slot), Pw s s E z9 h9 H locs → Mo s s z0 z9 (zLim z0) → lv_has ls 4 [(0, .ref b), (1, .ref v1), (2, .ref v2), (3, .int v3)] → W p l e (rmA 2048 84000 z0 (zLim z0)) s m #[Value.ref b] below meth c H locs (z9.sz - z0.sz) (z9.sl - z0.sl) (lw_Z below #[Value.ref b] s) (F0 m 1395 ls []) := by
        intro H locs ls hw hM hl
        obtain ⟨y3, ey⟩ : ∃ y : Int32, y = v3 + 6 := ⟨_, rfl⟩
        refine lv_iinc (v := y3) (lv' := [(3, .int y3), (0, .ref b), (1, .ref v1), (2, .ref v2)]) hx hb dL_law_1395 hl (k := 3) rfl (by rw [ey]; rfl) (by decide) rfl (fun ls hl => ?_)
        refine lv_goto (tgt := 18) hx hb dL_law_1398 (by decide) ?_
        refine ih z9 h9 y3 _ _ _ hw hM (lv_sub hl [1, 2, 3, 0] rfl) ?_
        rw [ey]
        exact hf
      clear hf
      rename f_law_it n z0 L xs v1 v2 z h v3 = some (h9, z9) => hf
      unfold f_law_it at hf
      refine lv_aload_n hx hb dL_law_27 rfl (lv_at hl 0 rfl) ?_
      refine lv_iload_n hx hb dL_law_28 rfl (lv_at hl 3 rfl) ?_
      obtain ⟨x1, e, hf⟩ := ob hf
      refine q_sc e hx hb hX hbl hw dL_law_29 ?_
      refine lv_bipush (v := 63) hx hb dL_law_30 (by decide) ?_
      refine lv_iand hx hb dL_law_32 ?_
      obtain ⟨x2, e, hf⟩ := ob hf
      refine q_nmI e ?_
      by_cases c33_0 : x2 = 0
      · have hf := (if_pos c33_0).symm.trans hf
        refine lv_tableIn (off := 171) (tgt := 204) hx hb dL_law_33 (by rw [c33_0]; decide) (by rw [c33_0]; decide) (by rw [c33_0]; rfl) (by decide) ?_
        exact w_law_204 G B hX hbl hw hM hl hf hk
      have hf := (if_neg c33_0).symm.trans hf
      by_cases c33_1 : x2 = 1
      · have hf := (if_pos c33_1).symm.trans hf
        refine lv_tableIn (off := 234) (tgt := 267) hx hb dL_law_33 (by rw [c33_1]; decide) (by rw [c33_1]; decide) (by rw [c33_1]; rfl) (by decide) ?_
        exact w_law_267 G B hX hbl hw hM hl hf hk
      have hf := (if_neg c33_1).symm.trans hf
      by_cases c33_2 : x2 = 2
      · have hf := (if_pos c33_2).symm.trans hf
        refine lv_tableIn (off := 257) (tgt := 290) hx hb dL_law_33 (by rw [c33_2]; decide) (by rw [c33_2]; decide) (by rw [c33_2]; rfl) (by decide) ?_
        exact w_law_290 G B hX hbl hw hM hl hf hk
      have hf := (if_neg c33_2).symm.trans hf
      by_cases c33_3 : x2 = 3
      · have hf := (if_pos c33_3).symm.trans hf
        refine lv_tableIn (off := 280) (tgt := 313) hx hb dL_law_33 (by rw [c33_3]; decide) (by rw [c33_3]; decide) (by rw [c33_3]; rfl) (by decide) ?_
        exact w_law_313 G B hX hbl hw hM hl hf hk
      have hf := (if_neg c33_3).symm.trans hf
      by_cases c33_4 : x2 = 4
      · have hf := (if_pos c33_4).symm.trans hf
        refine lv_tableIn (off := 313) (tgt := 346) hx hb dL_law_33 (by rw [c33_4]; decide) (by rw [c33_4]; decide) (by rw [c33_4]; rfl) (by decide) ?_
        exact w_law_346 G B hX hbl hw hM hl hf hk
      have hf := (if_neg c33_4).symm.trans hf
      by_cases c33_5 : x2 = 5
      · have hf := (if_pos c33_5).symm.trans hf
        refine lv_tableIn (off := 346) (tgt := 379) hx hb dL_law_33 (by rw [c33_5]; decide) (by rw [c33_5]; decide) (by rw [c33_5]; rfl) (by decide) ?_
        exact w_law_379 G B hX hbl hw hM hl hf hk
      have hf := (if_neg c33_5).symm.trans hf
      by_cases c33_6 : x2 = 6
      · have hf := (if_pos c33_6).symm.trans hf
        refine lv_tableIn (off := 369) (tgt := 402) hx hb dL_law_33 (by rw [c33_6]; decide) (by rw [c33_6]; decide) (by rw [c33_6]; rfl) (by decide) ?_
        exact w_law_402 G B hX hbl hw hM hl hf hk
      have hf := (if_neg c33_6).symm.trans hf
      by_cases c33_7 : x2 = 7
      · have hf := (if_pos c33_7).symm.trans hf
        refine lv_tableIn (off := 402) (tgt := 435) hx hb dL_law_33 (by rw [c33_7]; decide) (by rw [c33_7]; decide) (by rw [c33_7]; rfl) (by decide) ?_
        exact w_law_435 G B hX hbl hw hM hl hf hk
      have hf := (if_neg c33_7).symm.trans hf
      by_cases c33_8 : x2 = 8
      · have hf := (if_pos c33_8).symm.trans hf
        refine lv_tableIn (off := 425) (tgt := 458) hx hb dL_law_33 (by rw [c33_8]; decide) (by rw [c33_8]; decide) (by rw [c33_8]; rfl) (by decide) ?_
        exact w_law_458 G B hX hbl hw hM hl hf hk
      have hf := (if_neg c33_8).symm.trans hf
      by_cases c33_9 : x2 = 9
      · have hf := (if_pos c33_9).symm.trans hf
        refine lv_tableIn (off := 458) (tgt := 491) hx hb dL_law_33 (by rw [c33_9]; decide) (by rw [c33_9]; decide) (by rw [c33_9]; rfl) (by decide) ?_
        exact w_law_491 G B hX hbl hw hM hl hf hk
      have hf := (if_neg c33_9).symm.trans hf
      by_cases c33_10 : x2 = 10
      · have hf := (if_pos c33_10).symm.trans hf
        refine lv_tableIn (off := 481) (tgt := 514) hx hb dL_law_33 (by rw [c33_10]; decide) (by rw [c33_10]; decide) (by rw [c33_10]; rfl) (by decide) ?_
        exact w_law_514 G B hX hbl hw hM hl hf hk
      have hf := (if_neg c33_10).symm.trans hf
      by_cases c33_11 : x2 = 11
      · have hf := (if_pos c33_11).symm.trans hf
        refine lv_tableIn (off := 514) (tgt := 547) hx hb dL_law_33 (by rw [c33_11]; decide) (by rw [c33_11]; decide) (by rw [c33_11]; rfl) (by decide) ?_
        exact w_law_547 G B hX hbl hw hM hl hf hk
      have hf := (if_neg c33_11).symm.trans hf
      by_cases c33_12 : x2 = 12
      · have hf := (if_pos c33_12).symm.trans hf
        refine lv_tableIn (off := 537) (tgt := 570) hx hb dL_law_33 (by rw [c33_12]; decide) (by rw [c33_12]; decide) (by rw [c33_12]; rfl) (by decide) ?_
        exact w_law_570 G B hX hbl hw hM hl hf hk
      have hf := (if_neg c33_12).symm.trans hf
      by_cases c33_13 : x2 = 13
      · have hf := (if_pos c33_13).symm.trans hf
        refine lv_tableIn (off := 570) (tgt := 603) hx hb dL_law_33 (by rw [c33_13]; decide) (by rw [c33_13]; decide) (by rw [c33_13]; rfl) (by decide) ?_
        exact w_law_603 G B hX hbl hw hM hl hf hk
      have hf := (if_neg c33_13).symm.trans hf
      by_cases c33_14 : x2 = 14
      · have hf := (if_pos c33_14).symm.trans hf
        refine lv_tableIn (off := 593) (tgt := 626) hx hb dL_law_33 (by rw [c33_14]; decide) (by rw [c33_14]; decide) (by rw [c33_14]; rfl) (by decide) ?_
        exact w_law_626 G B hX hbl hw hM hl hf hk
      have hf := (if_neg c33_14).symm.trans hf
      by_cases c33_15 : x2 = 15
      · have hf := (if_pos c33_15).symm.trans hf
        refine lv_tableIn (off := 626) (tgt := 659) hx hb dL_law_33 (by rw [c33_15]; decide) (by rw [c33_15]; decide) (by rw [c33_15]; rfl) (by decide) ?_
        exact w_law_659 G B hX hbl hw hM hl hf hk
      have hf := (if_neg c33_15).symm.trans hf
      by_cases c33_16 : x2 = 16
      · have hf := (if_pos c33_16).symm.trans hf
        refine lv_tableIn (off := 649) (tgt := 682) hx hb dL_law_33 (by rw [c33_16]; decide) (by rw [c33_16]; decide) (by rw [c33_16]; rfl) (by decide) ?_
        exact w_law_682 G B hX hbl hw hM hl hf hk
      have hf := (if_neg c33_16).symm.trans hf
      by_cases c33_17 : x2 = 17
      · have hf := (if_pos c33_17).symm.trans hf
        refine lv_tableIn (off := 682) (tgt := 715) hx hb dL_law_33 (by rw [c33_17]; decide) (by rw [c33_17]; decide) (by rw [c33_17]; rfl) (by decide) ?_
        exact w_law_715 G B hX hbl hw hM hl hf hk
      have hf := (if_neg c33_17).symm.trans hf
      by_cases c33_18 : x2 = 18
      · have hf := (if_pos c33_18).symm.trans hf
        refine lv_tableIn (off := 705) (tgt := 738) hx hb dL_law_33 (by rw [c33_18]; decide) (by rw [c33_18]; decide) (by rw [c33_18]; rfl) (by decide) ?_
        exact w_law_738 G B hX hbl hw hM hl hf hk
      have hf := (if_neg c33_18).symm.trans hf
      by_cases c33_19 : x2 = 19
      · have hf := (if_pos c33_19).symm.trans hf
        refine lv_tableIn (off := 729) (tgt := 762) hx hb dL_law_33 (by rw [c33_19]; decide) (by rw [c33_19]; decide) (by rw [c33_19]; rfl) (by decide) ?_
        exact w_law_762 G B hX hbl hw hM hl hf hk
      have hf := (if_neg c33_19).symm.trans hf
      by_cases c33_20 : x2 = 20
      · have hf := (if_pos c33_20).symm.trans hf
        refine lv_tableIn (off := 762) (tgt := 795) hx hb dL_law_33 (by rw [c33_20]; decide) (by rw [c33_20]; decide) (by rw [c33_20]; rfl) (by decide) ?_
        exact w_law_795 G B hX hbl hw hM hl hf hk
      have hf := (if_neg c33_20).symm.trans hf
      by_cases c33_21 : x2 = 21
      · have hf := (if_pos c33_21).symm.trans hf
        refine lv_tableIn (off := 796) (tgt := 829) hx hb dL_law_33 (by rw [c33_21]; decide) (by rw [c33_21]; decide) (by rw [c33_21]; rfl) (by decide) ?_
        exact w_law_829 G B hX hbl hw hM hl hf hk
      have hf := (if_neg c33_21).symm.trans hf
      by_cases c33_22 : x2 = 22
      · have hf := (if_pos c33_22).symm.trans hf
        refine lv_tableIn (off := 819) (tgt := 852) hx hb dL_law_33 (by rw [c33_22]; decide) (by rw [c33_22]; decide) (by rw [c33_22]; rfl) (by decide) ?_
        exact w_law_852 G B hX hbl hw hM hl hf hk
      have hf := (if_neg c33_22).symm.trans hf
      by_cases c33_23 : x2 = 23
      · have hf := (if_pos c33_23).symm.trans hf
        refine lv_tableIn (off := 842) (tgt := 875) hx hb dL_law_33 (by rw [c33_23]; decide) (by rw [c33_23]; decide) (by rw [c33_23]; rfl) (by decide) ?_
        exact w_law_875 G B hX hbl hw hM hl hf hk
      have hf := (if_neg c33_23).symm.trans hf
      by_cases c33_24 : x2 = 24
      · have hf := (if_pos c33_24).symm.trans hf
        refine lv_tableIn (off := 886) (tgt := 919) hx hb dL_law_33 (by rw [c33_24]; decide) (by rw [c33_24]; decide) (by rw [c33_24]; rfl) (by decide) ?_
        exact w_law_919 G B hX hbl hw hM hl hf hk
      have hf := (if_neg c33_24).symm.trans hf
      by_cases c33_25 : x2 = 25
      · have hf := (if_pos c33_25).symm.trans hf
        refine lv_tableIn (off := 919) (tgt := 952) hx hb dL_law_33 (by rw [c33_25]; decide) (by rw [c33_25]; decide) (by rw [c33_25]; rfl) (by decide) ?_
        exact w_law_952 G B hX hbl hw hM hl hf hk
      have hf := (if_neg c33_25).symm.trans hf
      by_cases c33_26 : x2 = 26
      · have hf := (if_pos c33_26).symm.trans hf
        refine lv_tableIn (off := 962) (tgt := 995) hx hb dL_law_33 (by rw [c33_26]; decide) (by rw [c33_26]; decide) (by rw [c33_26]; rfl) (by decide) ?_
        exact w_law_995 G B hX hbl hw hM hl hf hk
      have hf := (if_neg c33_26).symm.trans hf
      by_cases c33_27 : x2 = 27
      · have hf := (if_pos c33_27).symm.trans hf
        refine lv_tableIn (off := 1005) (tgt := 1038) hx hb dL_law_33 (by rw [c33_27]; decide) (by rw [c33_27]; decide) (by rw [c33_27]; rfl) (by decide) ?_
        exact w_law_1038 G B hX hbl hw hM hl hf hk
      have hf := (if_neg c33_27).symm.trans hf
      by_cases c33_28 : x2 = 28
      · have hf := (if_pos c33_28).symm.trans hf
        refine lv_tableIn (off := 1028) (tgt := 1061) hx hb dL_law_33 (by rw [c33_28]; decide) (by rw [c33_28]; decide) (by rw [c33_28]; rfl) (by decide) ?_
        exact w_law_1061 G B hX hbl hw hM hl hf hk
      have hf := (if_neg c33_28).symm.trans hf
      by_cases c33_29 : x2 = 29
      · have hf := (if_pos c33_29).symm.trans hf
        refine lv_tableIn (off := 1051) (tgt := 1084) hx hb dL_law_33 (by rw [c33_29]; decide) (by rw [c33_29]; decide) (by rw [c33_29]; rfl) (by decide) ?_
        exact w_law_1084 G B hX hbl hw hM hl hf hk
      have hf := (if_neg c33_29).symm.trans hf
      by_cases c33_30 : x2 = 30
      · have hf := (if_pos c33_30).symm.trans hf
        refine lv_tableIn (off := 1074) (tgt := 1107) hx hb dL_law_33 (by rw [c33_30]; decide) (by rw [c33_30]; decide) (by rw [c33_30]; rfl) (by decide) ?_
        exact w_law_1107 G B hX hbl hw hM hl hf hk
      have hf := (if_neg c33_30).symm.trans hf
      by_cases c33_31 : x2 = 31
      · have hf := (if_pos c33_31).symm.trans hf
        refine lv_tableIn (off := 1107) (tgt := 1140) hx hb dL_law_33 (by rw [c33_31]; decide) (by rw [c33_31]; decide) (by rw [c33_31]; rfl) (by decide) ?_
        exact w_law_1140 G B hX hbl hw hM hl hf hk
      have hf := (if_neg c33_31).symm.trans hf
      by_cases c33_32 : x2 = 32
      · have hf := (if_pos c33_32).symm.trans hf
        refine lv_tableIn (off := 1120) (tgt := 1153) hx hb dL_law_33 (by rw [c33_32]; decide) (by rw [c33_32]; decide) (by rw [c33_32]; rfl) (by decide) ?_
        exact w_law_1153 G B hX hbl hw hM hl hf hk
      have hf := (if_neg c33_32).symm.trans hf
      by_cases c33_33 : x2 = 33
      · have hf := (if_pos c33_33).symm.trans hf
        refine lv_tableIn (off := 1143) (tgt := 1176) hx hb dL_law_33 (by rw [c33_33]; decide) (by rw [c33_33]; decide) (by rw [c33_33]; rfl) (by decide) ?_
        exact w_law_1176 G B hX hbl hw hM hl hf hk
      have hf := (if_neg c33_33).symm.trans hf
      by_cases c33_34 : x2 = 34
      · have hf := (if_pos c33_34).symm.trans hf
        refine lv_tableIn (off := 1186) (tgt := 1219) hx hb dL_law_33 (by rw [c33_34]; decide) (by rw [c33_34]; decide) (by rw [c33_34]; rfl) (by decide) ?_
        exact w_law_1219 G B hX hbl hw hM hl hf hk
      have hf := (if_neg c33_34).symm.trans hf
      by_cases c33_35 : x2 = 35
      · have hf := (if_pos c33_35).symm.trans hf
        refine lv_tableIn (off := 1260) (tgt := 1293) hx hb dL_law_33 (by rw [c33_35]; decide) (by rw [c33_35]; decide) (by rw [c33_35]; rfl) (by decide) ?_
        exact w_law_1293 G B hX hbl hw hM hl hf hk
      have hf := (if_neg c33_35).symm.trans hf
      by_cases c33_36 : x2 = 36
      · have hf := (if_pos c33_36).symm.trans hf
        refine lv_tableIn (off := 1293) (tgt := 1326) hx hb dL_law_33 (by rw [c33_36]; decide) (by rw [c33_36]; decide) (by rw [c33_36]; rfl) (by decide) ?_
        exact w_law_1326 G B hX hbl hw hM hl hf hk
      have hf := (if_neg c33_36).symm.trans hf
      by_cases c33_37 : x2 = 37
      · have hf := (if_pos c33_37).symm.trans hf
        refine lv_tableIn (off := 1316) (tgt := 1349) hx hb dL_law_33 (by rw [c33_37]; decide) (by rw [c33_37]; decide) (by rw [c33_37]; rfl) (by decide) ?_
        exact w_law_1349 G B hX hbl hw hM hl hf hk
      have hf := (if_neg c33_37).symm.trans hf
      by_cases c33_38 : x2 = 38
      · have hf := (if_pos c33_38).symm.trans hf
        refine lv_tableIn (off := 1339) (tgt := 1372) hx hb dL_law_33 (by rw [c33_38]; decide) (by rw [c33_38]; decide) (by rw [c33_38]; rfl) (by decide) ?_
        exact w_law_1372 G B hX hbl hw hM hl hf hk
      have hf := (if_neg c33_38).symm.trans hf
      refine lv_tableOut (tgt := 1395) hx hb dL_law_33 (sw_out (fun k h1 h2 => ?_)) (by decide) ?_
      · rcases (show k = (0) ∨ k = (1) ∨ k = (2) ∨ k = (3) ∨ k = (4) ∨ k = (5) ∨ k = (6) ∨ k = (7) ∨ k = (8) ∨ k = (9) ∨ k = (10) ∨ k = (11) ∨ k = (12) ∨ k = (13) ∨ k = (14) ∨ k = (15) ∨ k = (16) ∨ k = (17) ∨ k = (18) ∨ k = (19) ∨ k = (20) ∨ k = (21) ∨ k = (22) ∨ k = (23) ∨ k = (24) ∨ k = (25) ∨ k = (26) ∨ k = (27) ∨ k = (28) ∨ k = (29) ∨ k = (30) ∨ k = (31) ∨ k = (32) ∨ k = (33) ∨ k = (34) ∨ k = (35) ∨ k = (36) ∨ k = (37) ∨ k = (38) by omega) with rfl | rfl | rfl | rfl | rfl | rfl | rfl | rfl | rfl | rfl | rfl | rfl | rfl | rfl | rfl | rfl | rfl | rfl | rfl | rfl | rfl | rfl | rfl | rfl | rfl | rfl | rfl | rfl | rfl | rfl | rfl | rfl | rfl | rfl | rfl | rfl | rfl | rfl | rfl
        · exact fun q => c33_0 (Int32.toInt_inj.mp q)
        · exact fun q => c33_1 (Int32.toInt_inj.mp q)
        · exact fun q => c33_2 (Int32.toInt_inj.mp q)
        · exact fun q => c33_3 (Int32.toInt_inj.mp q)
        · exact fun q => c33_4 (Int32.toInt_inj.mp q)
        · exact fun q => c33_5 (Int32.toInt_inj.mp q)
        · exact fun q => c33_6 (Int32.toInt_inj.mp q)
        · exact fun q => c33_7 (Int32.toInt_inj.mp q)
        · exact fun q => c33_8 (Int32.toInt_inj.mp q)
        · exact fun q => c33_9 (Int32.toInt_inj.mp q)
        · exact fun q => c33_10 (Int32.toInt_inj.mp q)
        · exact fun q => c33_11 (Int32.toInt_inj.mp q)
        · exact fun q => c33_12 (Int32.toInt_inj.mp q)
        · exact fun q => c33_13 (Int32.toInt_inj.mp q)
        · exact fun q => c33_14 (Int32.toInt_inj.mp q)
        · exact fun q => c33_15 (Int32.toInt_inj.mp q)
        · exact fun q => c33_16 (Int32.toInt_inj.mp q)
        · exact fun q => c33_17 (Int32.toInt_inj.mp q)
        · exact fun q => c33_18 (Int32.toInt_inj.mp q)
        · exact fun q => c33_19 (Int32.toInt_inj.mp q)
        · exact fun q => c33_20 (Int32.toInt_inj.mp q)
        · exact fun q => c33_21 (Int32.toInt_inj.mp q)
        · exact fun q => c33_22 (Int32.toInt_inj.mp q)
        · exact fun q => c33_23 (Int32.toInt_inj.mp q)
        · exact fun q => c33_24 (Int32.toInt_inj.mp q)
        · exact fun q => c33_25 (Int32.toInt_inj.mp q)
        · exact fun q => c33_26 (Int32.toInt_inj.mp q)
        · exact fun q => c33_27 (Int32.toInt_inj.mp q)
        · exact fun q => c33_28 (Int32.toInt_inj.mp q)
        · exact fun q => c33_29 (Int32.toInt_inj.mp q)
        · exact fun q => c33_30 (Int32.toInt_inj.mp q)
        · exact fun q => c33_31 (Int32.toInt_inj.mp q)
        · exact fun q => c33_32 (Int32.toInt_inj.mp q)
        · exact fun q => c33_33 (Int32.toInt_inj.mp q)
        · exact fun q => c33_34 (Int32.toInt_inj.mp q)
        · exact fun q => c33_35 (Int32.toInt_inj.mp q)
        · exact fun q => c33_36 (Int32.toInt_inj.mp q)
        · exact fun q => c33_37 (Int32.toInt_inj.mp q)
        · exact fun q => c33_38 (Int32.toInt_inj.mp q)
      · obtain ⟨rfl, rfl⟩ := so2 hf
        exact hk _ _ _ hw hM hl
set_option maxHeartbeats 4000000 in
theorem w_law_0 {p : Program} {l : Launch} {e : Env} {s : State} {m : MethodId} {below : List Frame} {meth : Method} {c : Code} {E : Ev} {b L : Nat} {xs : Nat → Int32} {n : Nat} {z0 : Sh} {h : Hp} (hL : L ≤ 3072) (C0 : lw_At p s m meth c b L xs) (G : Gl s E) (hw : Pw s s E z0 h s.heap []) (hsz : s.heap.size = z0.sz) (hf : f_law n z0 h L xs = some ()) : W p l e room_1 s m #[Value.ref b] below meth c s.heap [] 0 0 (lw_Z below #[Value.ref b] s) (entryFrame m ([Value.ref b] : List Value).toArray 4) := by
  obtain ⟨hx, hb, hr, hml, hown, hts, hX, hbl, hlocks, hgv⟩ := id C0
  have B : Bd p s s E m c cL_law 4 RL := ⟨hx, hb, hml, hown, State.WarmedH.refl s, G, fun _ _ => rfl, Nat.le_refl _⟩
  have hM : Mo s s z0 z0 (zLim z0) := ⟨Nat.le_refl _, Nat.le_refl _, Nat.le_add_right _ _, Nat.le_add_right _ _, hsz, Nat.le_of_eq hsz⟩
  have hl := lv_entry ([.ref b]) (n := 4) (Nat.le_of_ble_eq_true rfl)
  rw [lg_entry_eq]
  generalize (lg_sl ([.ref b]) ++ List.replicate (4 - (lg_sl ([.ref b])).length) Slot.unset).toArray = ls at hl ⊢
  have hl : lv_has ls 4 [(0, .ref b)] := hl
  rw [← rmL z0]
  refine W0.go z0 ?_
  unfold f_law at hf
  obtain ⟨⟨a1, h2, z3⟩, e, hf⟩ := ob hf
  obtain ⟨hg, hf⟩ := gdL_some hf
  refine q_newO e hg B hw hM (by decide) (ci := 11) rfl rfl tyX11 tyX11_ok dfX11 tw_1_23 tw_1_24 tw_1_1 dL_law_0 (fun H locs hw hM => ?_)
  refine lv_dup hx hb dL_law_3 rfl ?_
  obtain ⟨⟨h4, z5⟩, e, hf⟩ := ob hf
  obtain ⟨hg, hf⟩ := gdL_some hf
  refine q_callIA (As := []) (rest := [.ref a1]) (c_X11_init G e) (mo_X11_init e) hg B hw hM rfl my_X11_init mv_X11_init tw_1_25 ⟨Nat.le_of_ble_eq_true rfl, Nat.le_of_ble_eq_true rfl⟩ rfl hl.1 rfl (Nat.le_of_ble_eq_true rfl) dL_law_4 (fun H locs hw hM => ?_)
  refine lv_astore_n (lv' := [(1, .ref a1), (0, .ref b)]) hx hb dL_law_7 rfl hl (by decide) rfl (fun ls hl => ?_)
  obtain ⟨⟨a6, h7, z8⟩, e, hf⟩ := ob hf
  obtain ⟨hg, hf⟩ := gdL_some hf
  refine q_newO e hg B hw hM (by decide) (ci := 12) rfl rfl tyX12 tyX12_ok dfX12 tw_6_33 tw_6_34 tw_1_14 dL_law_8 (fun H locs hw hM => ?_)
  refine lv_dup hx hb dL_law_11 rfl ?_
  obtain ⟨⟨h9, z10⟩, e, hf⟩ := ob hf
  obtain ⟨hg, hf⟩ := gdL_some hf
  refine q_callIA (As := []) (rest := [.ref a6]) (c_X12_init G e) (mo_X12_init e) hg B hw hM rfl my_X12_init mv_X12_init tw_6_35 ⟨Nat.le_of_ble_eq_true rfl, Nat.le_of_ble_eq_true rfl⟩ rfl hl.1 rfl (Nat.le_of_ble_eq_true rfl) dL_law_12 (fun H locs hw hM => ?_)
  refine lv_astore_n (lv' := [(2, .ref a6), (1, .ref a1), (0, .ref b)]) hx hb dL_law_15 rfl hl (by decide) rfl (fun ls hl => ?_)
  refine lv_iconst (v := 0) hx hb dL_law_16 (by decide) ?_
  refine lv_istore_n (lv' := [(3, .int 0), (2, .ref a6), (1, .ref a1), (0, .ref b)]) hx hb dL_law_17 rfl hl (by decide) rfl (fun ls hl => ?_)
  exact w_law_18 hL C0 G B _ _ _ _ _ _ _ hw hM (lv_sub hl [3, 2, 1, 0] rfl) hf
