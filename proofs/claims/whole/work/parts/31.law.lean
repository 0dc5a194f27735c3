def f_law_204 (n : Nat) (z0 : Sh) (L : Nat) (xs : Nat → Int32) (v1 v2 : Nat) (z : Sh) (h : Hp) (v3 : Int32) : Option (Hp × Sh) :=
  (sc L xs (v3 + 1)).bind fun x1 =>
  (sc L xs (v3 + 2)).bind fun x2 =>
  (sc L xs (v3 + 3)).bind fun x3 =>
  (sc L xs (v3 + 4)).bind fun x4 =>
  (sc L xs (v3 + 5)).bind fun x5 =>
  (f_X11_feed n z h v1 x1 x2 x3 x4 x5).bind fun (x6, h7) =>
  (sc L xs (v3 + 1)).bind fun x8 =>
  (sc L xs (v3 + 2)).bind fun x9 =>
  (sc L xs (v3 + 3)).bind fun x10 =>
  (sc L xs (v3 + 4)).bind fun x11 =>
  (sc L xs (v3 + 5)).bind fun x12 =>
  (f_X12_feed n z h7 v2 x8 x9 x10 x11 x12).bind fun (x13, h14) =>
  if x6 = x13 then
    some (h14, z)
  else
    none
set_option maxHeartbeats 4000000 in
theorem w_law_204 {p : Program} {l : Launch} {e : Env} {s : State} {m : MethodId} {below : List Frame} {meth : Method} {c : Code} {E : Ev} {b L : Nat} {xs : Nat → Int32} {n : Nat} {z0 : Sh} {v1 v2 : Nat} {z : Sh} {h : Hp} {v3 : Int32} {h9 : Hp} {z9 : Sh} {H : Heap} {locs : List Loc} {ls : Array Slot} (G : Gl s E) (B : Bd p s s E m c cL_law 4 RL) (hX : va_X b L xs s s.heap) (hbl : b < s.heap.size) (hw : Pw s s E z h H locs) (hM : Mo s s z0 z (zLim z0)) (hl : lv_has ls 4 [(0, .ref b), (1, .ref v1), (2, .ref v2), (3, .int v3)]) (hf : f_law_204 n z0 L xs v1 v2 z h v3 = some (h9, z9)) (hk : ∀ (H : Heap) (locs : List Loc) (ls : Array Slot), Pw s s E z9 h9 H locs → Mo s s z0 z9 (zLim z0) → lv_has ls 4 [(0, .ref b), (1, .ref v1), (2, .ref v2), (3, .int v3)] → W p l e (rmA 2048 84000 z0 (zLim z0)) s m #[Value.ref b] below meth c H locs (z9.sz - z0.sz) (z9.sl - z0.sl) (lw_Z below #[Value.ref b] s) (F0 m 1395 ls [])) : W p l e (rmA 2048 84000 z0 (zLim z0)) s m #[Value.ref b] below meth c H locs (z.sz - z0.sz) (z.sl - z0.sl) (lw_Z below #[Value.ref b] s) (F0 m 204 ls []) := by
  have hx := B.1
  have hb := B.2.1
  unfold f_law_204 at hf
  refine lv_aload_n hx hb dL_law_204 rfl (lv_at hl 1 rfl) ?_
  refine lv_aload_n hx hb dL_law_205 rfl (lv_at hl 0 rfl) ?_
  refine lv_iload_n hx hb dL_law_206 rfl (lv_at hl 3 rfl) ?_
  refine lv_iconst (v := 1) hx hb dL_law_207 (by decide) ?_
  refine lv_iadd hx hb dL_law_208 ?_
  obtain ⟨x1, e, hf⟩ := ob hf
  refine q_sc e hx hb hX hbl hw dL_law_209 ?_
  refine lv_aload_n hx hb dL_law_210 rfl (lv_at hl 0 rfl) ?_
  refine lv_iload_n hx hb dL_law_211 rfl (lv_at hl 3 rfl) ?_
  refine lv_iconst (v := 2) hx hb dL_law_212 (by decide) ?_
  refine lv_iadd hx hb dL_law_213 ?_
  obtain ⟨x2, e, hf⟩ := ob hf
  refine q_sc e hx hb hX hbl hw dL_law_214 ?_
  refine lv_aload_n hx hb dL_law_215 rfl (lv_at hl 0 rfl) ?_
  refine lv_iload_n hx hb dL_law_216 rfl (lv_at hl 3 rfl) ?_
  refine lv_iconst (v := 3) hx hb dL_law_217 (by decide) ?_
  refine lv_iadd hx hb dL_law_218 ?_
  obtain ⟨x3, e, hf⟩ := ob hf
  refine q_sc e hx hb hX hbl hw dL_law_219 ?_
  refine lv_aload_n hx hb dL_law_220 rfl (lv_at hl 0 rfl) ?_
  refine lv_iload_n hx hb dL_law_221 rfl (lv_at hl 3 rfl) ?_
  refine lv_iconst (v := 4) hx hb dL_law_222 (by decide) ?_
  refine lv_iadd hx hb dL_law_223 ?_
  obtain ⟨x4, e, hf⟩ := ob hf
  refine q_sc e hx hb hX hbl hw dL_law_224 ?_
  refine lv_aload_n hx hb dL_law_225 rfl (lv_at hl 0 rfl) ?_
  refine lv_iload_n hx hb dL_law_226 rfl (lv_at hl 3 rfl) ?_
  refine lv_iconst (v := 5) hx hb dL_law_227 (by decide) ?_
  refine lv_iadd hx hb dL_law_228 ?_
  obtain ⟨x5, e, hf⟩ := ob hf
  refine q_sc e hx hb hX hbl hw dL_law_229 ?_
  obtain ⟨⟨x6, h7⟩, e, hf⟩ := ob hf
  refine q_callV (As := [.int x1, .int x2, .int x3, .int x4, .int x5]) (rest := []) (st1 := [.int x6]) (c_X11_feed G e) B hw hM.hz hM.hc0 (k_X11_feed e) (by decide) (ci := 11) rfl rfl my_X11_feed mv_X11_feed tw_2_151 ⟨Nat.le_of_ble_eq_true rfl, Nat.le_of_ble_eq_true rfl⟩ hM.hcs rfl hl.1 rfl rfl (Nat.le_of_ble_eq_true rfl) dL_law_230 (fun H locs hw => ?_)
  refine lv_aload_n hx hb dL_law_233 rfl (lv_at hl 2 rfl) ?_
  refine lv_aload_n hx hb dL_law_234 rfl (lv_at hl 0 rfl) ?_
  refine lv_iload_n hx hb dL_law_235 rfl (lv_at hl 3 rfl) ?_
  refine lv_iconst (v := 1) hx hb dL_law_236 (by decide) ?_
  refine lv_iadd hx hb dL_law_237 ?_
  obtain ⟨x8, e, hf⟩ := ob hf
  refine q_sc e hx hb hX hbl hw dL_law_238 ?_
  refine lv_aload_n hx hb dL_law_239 rfl (lv_at hl 0 rfl) ?_
  refine lv_iload_n hx hb dL_law_240 rfl (lv_at hl 3 rfl) ?_
  refine lv_iconst (v := 2) hx hb dL_law_241 (by decide) ?_
  refine lv_iadd hx hb dL_law_242 ?_
  obtain ⟨x9, e, hf⟩ := ob hf
  refine q_sc e hx hb hX hbl hw dL_law_243 ?_
  refine lv_aload_n hx hb dL_law_244 rfl (lv_at hl 0 rfl) ?_
  refine lv_iload_n hx hb dL_law_245 rfl (lv_at hl 3 rfl) ?_
  refine lv_iconst (v := 3) hx hb dL_law_246 (by decide) ?_
  refine lv_iadd hx hb dL_law_247 ?_
  obtain ⟨x10, e, hf⟩ := ob hf
  refine q_sc e hx hb hX hbl hw dL_law_248 ?_
  refine lv_aload_n hx hb dL_law_249 rfl (lv_at hl 0 rfl) ?_
  refine lv_iload_n hx hb dL_law_250 rfl (lv_at hl 3 rfl) ?_
  refine lv_iconst (v := 4) hx hb dL_law_251 (by decide) ?_
  refine lv_iadd hx hb dL_law_252 ?_
  obtain ⟨x11, e, hf⟩ := ob hf
  refine q_sc e hx hb hX hbl hw dL_law_253 ?_
  refine lv_aload_n hx hb dL_law_254 rfl (lv_at hl 0 rfl) ?_
  refine lv_iload_n hx hb dL_law_255 rfl (lv_at hl 3 rfl) ?_
  refine lv_iconst (v := 5) hx hb dL_law_256 (by decide) ?_
  refine lv_iadd hx hb dL_law_257 ?_
  obtain ⟨x12, e, hf⟩ := ob hf
  refine q_sc e hx hb hX hbl hw dL_law_258 ?_
  obtain ⟨⟨x13, h14⟩, e, hf⟩ := ob hf
  refine q_callV (As := [.int x8, .int x9, .int x10, .int x11, .int x12]) (rest := [.int x6]) (st1 := [.int x13, .int x6]) (c_X12_feed G e) B hw hM.hz hM.hc0 (k_X12_feed e) (by decide) (ci := 12) rfl rfl my_X12_feed mv_X12_feed tw_6_153 ⟨Nat.le_of_ble_eq_true rfl, Nat.le_of_ble_eq_true rfl⟩ hM.hcs rfl hl.1 rfl rfl (Nat.le_of_ble_eq_true rfl) dL_law_259 (fun H locs hw => ?_)
  refine lv_icmp_eq (tgt := 1395) hx hb dL_law_262 (by decide) (fun c15 => ?_) (fun c15 => ?_)
  · have hf := (if_pos c15).symm.trans hf
    obtain ⟨rfl, rfl⟩ := so2 hf
    exact hk _ _ _ hw hM (lv_sub hl [0, 1, 2, 3] rfl)
  · have hf := (if_neg c15).symm.trans hf
    refine lv_iconst (v := 0) hx hb dL_law_265 (by decide) ?_
    cases hf
def f_law_267 (n : Nat) (z0 : Sh) (L : Nat) (xs : Nat → Int32) (v1 v2 : Nat) (z : Sh) (h : Hp) (v3 : Int32) : Option (Hp × Sh) :=
  (sc L xs (v3 + 1)).bind fun x1 =>
  (f_X11_town n z h v1 x1).bind fun (x2, h3, z4) =>
  gdL z0 z4 <|
  (sc L xs (v3 + 1)).bind fun x5 =>
  (f_X12_town n z4 h3 v2 x5).bind fun (x6, h7) =>
  if x2 = x6 then
    some (h7, z4)
  else
    none
set_option maxHeartbeats 4000000 in
theorem w_law_267 {p : Program} {l : Launch} {e : Env} {s : State} {m : MethodId} {below : List Frame} {meth : Method} {c : Code} {E : Ev} {b L : Nat} {xs : Nat → Int32} {n : Nat} {z0 : Sh} {v1 v2 : Nat} {z : Sh} {h : Hp} {v3 : Int32} {h9 : Hp} {z9 : Sh} {H : Heap} {locs : List Loc} {ls : Array Slot} (G : Gl s E) (B : Bd p s s E m c cL_law 4 RL) (hX : va_X b L xs s s.heap) (hbl : b < s.heap.size) (hw : Pw s s E z h H locs) (hM : Mo s s z0 z (zLim z0)) (hl : lv_has ls 4 [(0, .ref b), (1, .ref v1), (2, .ref v2), (3, .int v3)]) (hf : f_law_267 n z0 L xs v1 v2 z h v3 = some (h9, z9)) (hk : ∀ (H : Heap) (locs : List Loc) (ls : Array Slot), Pw s s E z9 h9 H locs → Mo s s z0 z9 (zLim z0) → lv_has ls 4 [(0, .ref b), (1, .ref v1), (2, .ref v2), (3, .int v3)] → W p l e (rmA 2048 84000 z0 (zLim z0)) s m #[Value.ref b] below meth c H locs (z9.sz - z0.sz) (z9.sl - z0.sl) (lw_Z below #[Value.ref b] s) (F0 m 1395 ls [])) : W p l e (rmA 2048 84000 z0 (zLim z0)) s m #[Value.ref b] below meth c H locs (z.sz - z0.sz) (z.sl - z0.sl) (lw_Z below #[Value.ref b] s) (F0 m 267 ls []) := by
  have hx := B.1
  have hb := B.2.1
  unfold f_law_267 at hf
  refine lv_aload_n hx hb dL_law_267 rfl (lv_at hl 1 rfl) ?_
  refine lv_aload_n hx hb dL_law_268 rfl (lv_at hl 0 rfl) ?_
  refine lv_iload_n hx hb dL_law_269 rfl (lv_at hl 3 rfl) ?_
  refine lv_iconst (v := 1) hx hb dL_law_270 (by decide) ?_
  refine lv_iadd hx hb dL_law_271 ?_
  obtain ⟨x1, e, hf⟩ := ob hf
  refine q_sc e hx hb hX hbl hw dL_law_272 ?_
  obtain ⟨⟨x2, h3, z4⟩, e, hf⟩ := ob hf
  obtain ⟨hg, hf⟩ := gdL_some hf
  refine q_callVA (As := [.int x1]) (rest := []) (st1 := [.int x2]) (c_X11_town G e) (mo_X11_town e) hg B hw hM (k_X11_town e) (by decide) (ci := 11) rfl rfl my_X11_town mv_X11_town tw_2_163 ⟨Nat.le_of_ble_eq_true rfl, Nat.le_of_ble_eq_true rfl⟩ rfl hl.1 rfl rfl (Nat.le_of_ble_eq_true rfl) dL_law_273 (fun H locs hw hM => ?_)
  refine lv_aload_n hx hb dL_law_276 rfl (lv_at hl 2 rfl) ?_
  refine lv_aload_n hx hb dL_law_277 rfl (lv_at hl 0 rfl) ?_
  refine lv_iload_n hx hb dL_law_278 rfl (lv_at hl 3 rfl) ?_
  refine lv_iconst (v := 1) hx hb dL_law_279 (by decide) ?_
  refine lv_iadd hx hb dL_law_280 ?_
  obtain ⟨x5, e, hf⟩ := ob hf
  refine q_sc e hx hb hX hbl hw dL_law_281 ?_
  obtain ⟨⟨x6, h7⟩, e, hf⟩ := ob hf
  refine q_callV (As := [.int x5]) (rest := [.int x2]) (st1 := [.int x6, .int x2]) (c_X12_town G e) B hw hM.hz hM.hc0 (k_X12_town e) (by decide) (ci := 12) rfl rfl my_X12_town mv_X12_town tw_6_158 ⟨Nat.le_of_ble_eq_true rfl, Nat.le_of_ble_eq_true rfl⟩ hM.hcs rfl hl.1 rfl rfl (Nat.le_of_ble_eq_true rfl) dL_law_282 (fun H locs hw => ?_)
  refine lv_icmp_eq (tgt := 1395) hx hb dL_law_285 (by decide) (fun c8 => ?_) (fun c8 => ?_)
  · have hf := (if_pos c8).symm.trans hf
    obtain ⟨rfl, rfl⟩ := so2 hf
    exact hk _ _ _ hw hM (lv_sub hl [0, 1, 2, 3] rfl)
  · have hf := (if_neg c8).symm.trans hf
    refine lv_iconst (v := 0) hx hb dL_law_288 (by decide) ?_
    cases hf
def f_law_290 (n : Nat) (z0 : Sh) (L : Nat) (xs : Nat → Int32) (v1 v2 : Nat) (z : Sh) (h : Hp) (v3 : Int32) : Option (Hp × Sh) :=
  (sc L xs (v3 + 1)).bind fun x1 =>
  (f_X11_fault z h v1 x1).bind fun x2 =>
  (sc L xs (v3 + 1)).bind fun x3 =>
  (f_X12_fault z h v2 x3).bind fun (x4, h5) =>
  if x2 = x4 then
    some (h5, z)
  else
    none
set_option maxHeartbeats 4000000 in
theorem w_law_290 {p : Program} {l : Launch} {e : Env} {s : State} {m : MethodId} {below : List Frame} {meth : Method} {c : Code} {E : Ev} {b L : Nat} {xs : Nat → Int32} {n : Nat} {z0 : Sh} {v1 v2 : Nat} {z : Sh} {h : Hp} {v3 : Int32} {h9 : Hp} {z9 : Sh} {H : Heap} {locs : List Loc} {ls : Array Slot} (G : Gl s E) (B : Bd p s s E m c cL_law 4 RL) (hX : va_X b L xs s s.heap) (hbl : b < s.heap.size) (hw : Pw s s E z h H locs) (hM : Mo s s z0 z (zLim z0)) (hl : lv_has ls 4 [(0, .ref b), (1, .ref v1), (2, .ref v2), (3, .int v3)]) (hf : f_law_290 n z0 L xs v1 v2 z h v3 = some (h9, z9)) (hk : ∀ (H : Heap) (locs : List Loc) (ls : Array Slot), Pw s s E z9 h9 H locs → Mo s s z0 z9 (zLim z0) → lv_has ls 4 [(0, .ref b), (1, .ref v1), (2, .ref v2), (3, .int v3)] → W p l e (rmA 2048 84000 z0 (zLim z0)) s m #[Value.ref b] below meth c H locs (z9.sz - z0.sz) (z9.sl - z0.sl) (lw_Z below #[Value.ref b] s) (F0 m 1395 ls [])) : W p l e (rmA 2048 84000 z0 (zLim z0)) s m #[Value.ref b] below meth c H locs (z.sz - z0.sz) (z.sl - z0.sl) (lw_Z below #[Value.ref b] s) (F0 m 290 ls []) := by
  have hx := B.1
  have hb := B.2.1
  unfold f_law_290 at hf
  refine lv_aload_n hx hb dL_law_290 rfl (lv_at hl 1 rfl) ?_
  refine lv_aload_n hx hb dL_law_291 rfl (lv_at hl 0 rfl) ?_
  refine lv_iload_n hx hb dL_law_292 rfl (lv_at hl 3 rfl) ?_
  refine lv_iconst (v := 1) hx hb dL_law_293 (by decide) ?_
  refine lv_iadd hx hb dL_law_294 ?_
  obtain ⟨x1, e, hf⟩ := ob hf
  refine q_sc e hx hb hX hbl hw dL_law_295 ?_
  obtain ⟨x2, e, hf⟩ := ob hf
  refine q_callV (As := [.int x1]) (rest := []) (st1 := [.int x2]) (c_X11_fault G e) B hw hM.hz hM.hc0 (k_X11_fault e) (by decide) (ci := 11) rfl rfl my_X11_fault mv_X11_fault tw_3_202 ⟨Nat.le_of_ble_eq_true rfl, Nat.le_of_ble_eq_true rfl⟩ hM.hcs rfl hl.1 rfl rfl (Nat.le_of_ble_eq_true rfl) dL_law_296 (fun H locs hw => ?_)
  refine lv_aload_n hx hb dL_law_299 rfl (lv_at hl 2 rfl) ?_
  refine lv_aload_n hx hb dL_law_300 rfl (lv_at hl 0 rfl) ?_
  refine lv_iload_n hx hb dL_law_301 rfl (lv_at hl 3 rfl) ?_
  refine lv_iconst (v := 1) hx hb dL_law_302 (by decide) ?_
  refine lv_iadd hx hb dL_law_303 ?_
  obtain ⟨x3, e, hf⟩ := ob hf
  refine q_sc e hx hb hX hbl hw dL_law_304 ?_
  obtain ⟨⟨x4, h5⟩, e, hf⟩ := ob hf
  refine q_callV (As := [.int x3]) (rest := [.int x2]) (st1 := [.int x4, .int x2]) (c_X12_fault G e) B hw hM.hz hM.hc0 (k_X12_fault e) (by decide) (ci := 12) rfl rfl my_X12_fault mv_X12_fault tw_7_27 ⟨Nat.le_of_ble_eq_true rfl, Nat.le_of_ble_eq_true rfl⟩ hM.hcs rfl hl.1 rfl rfl (Nat.le_of_ble_eq_true rfl) dL_law_305 (fun H locs hw => ?_)
  refine lv_icmp_eq (tgt := 1395) hx hb dL_law_308 (by decide) (fun c6 => ?_) (fun c6 => ?_)
  · have hf := (if_pos c6).symm.trans hf
    obtain ⟨rfl, rfl⟩ := so2 hf
    exact hk _ _ _ hw hM (lv_sub hl [0, 1, 2, 3] rfl)
  · have hf := (if_neg c6).symm.trans hf
    refine lv_iconst (v := 0) hx hb dL_law_311 (by decide) ?_
    cases hf
def f_law_313 (n : Nat) (z0 : Sh) (L : Nat) (xs : Nat → Int32) (v1 v2 : Nat) (z : Sh) (h : Hp) (v3 : Int32) : Option (Hp × Sh) :=
  (sc L xs (v3 + 1)).bind fun x1 =>
  (sc L xs (v3 + 2)).bind fun x2 =>
  (f_X11_person z h v1 x1 x2).bind fun x3 =>
  (sc L xs (v3 + 1)).bind fun x4 =>
  (sc L xs (v3 + 2)).bind fun x5 =>
  (f_X12_person z h v2 x4 x5).bind fun (x6, h7) =>
  if x3 = x6 then
    some (h7, z)
  else
    none
set_option maxHeartbeats 4000000 in
theorem w_law_313 {p : Program} {l : Launch} {e : Env} {s : State} {m : MethodId} {below : List Frame} {meth : Method} {c : Code} {E : Ev} {b L : Nat} {xs : Nat → Int32} {n : Nat} {z0 : Sh} {v1 v2 : Nat} {z : Sh} {h : Hp} {v3 : Int32} {h9 : Hp} {z9 : Sh} {H : Heap} {locs : List Loc} {ls : Array Slot} (G : Gl s E) (B : Bd p s s E m c cL_law 4 RL) (hX : va_X b L xs s s.heap) (hbl : b < s.heap.size) (hw : Pw s s E z h H locs) (hM : Mo s s z0 z (zLim z0)) (hl : lv_has ls 4 [(0, .ref b), (1, .ref v1), (2, .ref v2), (3, .int v3)]) (hf : f_law_313 n z0 L xs v1 v2 z h v3 = some (h9, z9)) (hk : ∀ (H : Heap) (locs : List Loc) (ls : Array Slot), Pw s s E z9 h9 H locs → Mo s s z0 z9 (zLim z0) → lv_has ls 4 [(0, .ref b), (1, .ref v1), (2, .ref v2), (3, .int v3)] → W p l e (rmA 2048 84000 z0 (zLim z0)) s m #[Value.ref b] below meth c H locs (z9.sz - z0.sz) (z9.sl - z0.sl) (lw_Z below #[Value.ref b] s) (F0 m 1395 ls [])) : W p l e (rmA 2048 84000 z0 (zLim z0)) s m #[Value.ref b] below meth c H locs (z.sz - z0.sz) (z.sl - z0.sl) (lw_Z below #[Value.ref b] s) (F0 m 313 ls []) := by
  have hx := B.1
  have hb := B.2.1
  unfold f_law_313 at hf
  refine lv_aload_n hx hb dL_law_313 rfl (lv_at hl 1 rfl) ?_
  refine lv_aload_n hx hb dL_law_314 rfl (lv_at hl 0 rfl) ?_
  refine lv_iload_n hx hb dL_law_315 rfl (lv_at hl 3 rfl) ?_
  refine lv_iconst (v := 1) hx hb dL_law_316 (by decide) ?_
  refine lv_iadd hx hb dL_law_317 ?_
  obtain ⟨x1, e, hf⟩ := ob hf
  refine q_sc e hx hb hX hbl hw dL_law_318 ?_
  refine lv_aload_n hx hb dL_law_319 rfl (lv_at hl 0 rfl) ?_
  refine lv_iload_n hx hb dL_law_320 rfl (lv_at hl 3 rfl) ?_
  refine lv_iconst (v := 2) hx hb dL_law_321 (by decide) ?_
  refine lv_iadd hx hb dL_law_322 ?_
  obtain ⟨x2, e, hf⟩ := ob hf
  refine q_sc e hx hb hX hbl hw dL_law_323 ?_
  obtain ⟨x3, e, hf⟩ := ob hf
  refine q_callV (As := [.int x1, .int x2]) (rest := []) (st1 := [.int x3]) (c_X11_person G e) B hw hM.hz hM.hc0 (k_X11_person e) (by decide) (ci := 11) rfl rfl my_X11_person mv_X11_person tw_3_206 ⟨Nat.le_of_ble_eq_true rfl, Nat.le_of_ble_eq_true rfl⟩ hM.hcs rfl hl.1 rfl rfl (Nat.le_of_ble_eq_true rfl) dL_law_324 (fun H locs hw => ?_)
  refine lv_aload_n hx hb dL_law_327 rfl (lv_at hl 2 rfl) ?_
  refine lv_aload_n hx hb dL_law_328 rfl (lv_at hl 0 rfl) ?_
  refine lv_iload_n hx hb dL_law_329 rfl (lv_at hl 3 rfl) ?_
  refine lv_iconst (v := 1) hx hb dL_law_330 (by decide) ?_
  refine lv_iadd hx hb dL_law_331 ?_
  obtain ⟨x4, e, hf⟩ := ob hf
  refine q_sc e hx hb hX hbl hw dL_law_332 ?_
  refine lv_aload_n hx hb dL_law_333 rfl (lv_at hl 0 rfl) ?_
  refine lv_iload_n hx hb dL_law_334 rfl (lv_at hl 3 rfl) ?_
  refine lv_iconst (v := 2) hx hb dL_law_335 (by decide) ?_
  refine lv_iadd hx hb dL_law_336 ?_
  obtain ⟨x5, e, hf⟩ := ob hf
  refine q_sc e hx hb hX hbl hw dL_law_337 ?_
  obtain ⟨⟨x6, h7⟩, e, hf⟩ := ob hf
  refine q_callV (As := [.int x4, .int x5]) (rest := [.int x3]) (st1 := [.int x6, .int x3]) (c_X12_person G e) B hw hM.hz hM.hc0 (k_X12_person e) (by decide) (ci := 12) rfl rfl my_X12_person mv_X12_person tw_7_31 ⟨Nat.le_of_ble_eq_true rfl, Nat.le_of_ble_eq_true rfl⟩ hM.hcs rfl hl.1 rfl rfl (Nat.le_of_ble_eq_true rfl) dL_law_338 (fun H locs hw => ?_)
  refine lv_icmp_eq (tgt := 1395) hx hb dL_law_341 (by decide) (fun c8 => ?_) (fun c8 => ?_)
  · have hf := (if_pos c8).symm.trans hf
    obtain ⟨rfl, rfl⟩ := so2 hf
    exact hk _ _ _ hw hM (lv_sub hl [0, 1, 2, 3] rfl)
  · have hf := (if_neg c8).symm.trans hf
    refine lv_iconst (v := 0) hx hb dL_law_344 (by decide) ?_
    cases hf
def f_law_346 (n : Nat) (z0 : Sh) (L : Nat) (xs : Nat → Int32) (v1 v2 : Nat) (z : Sh) (h : Hp) (v3 : Int32) : Option (Hp × Sh) :=
  (sc L xs (v3 + 1)).bind fun x1 =>
  (sc L xs (v3 + 2)).bind fun x2 =>
  (f_X11_worth n z h v1 x1 x2).bind fun (x3, h4) =>
  (sc L xs (v3 + 1)).bind fun x5 =>
  (sc L xs (v3 + 2)).bind fun x6 =>
  (f_X12_worth n z h4 v2 x5 x6).bind fun (x7, h8) =>
  if x3 = x7 then
    some (h8, z)
  else
    none
set_option maxHeartbeats 4000000 in
theorem w_law_346 {p : Program} {l : Launch} {e : Env} {s : State} {m : MethodId} {below : List Frame} {meth : Method} {c : Code} {E : Ev} {b L : Nat} {xs : Nat → Int32} {n : Nat} {z0 : Sh} {v1 v2 : Nat} {z : Sh} {h : Hp} {v3 : Int32} {h9 : Hp} {z9 : Sh} {H : Heap} {locs : List Loc} {ls : Array Slot} (G : Gl s E) (B : Bd p s s E m c cL_law 4 RL) (hX : va_X b L xs s s.heap) (hbl : b < s.heap.size) (hw : Pw s s E z h H locs) (hM : Mo s s z0 z (zLim z0)) (hl : lv_has ls 4 [(0, .ref b), (1, .ref v1), (2, .ref v2), (3, .int v3)]) (hf : f_law_346 n z0 L xs v1 v2 z h v3 = some (h9, z9)) (hk : ∀ (H : Heap) (locs : List Loc) (ls : Array Slot), Pw s s E z9 h9 H locs → Mo s s z0 z9 (zLim z0) → lv_has ls 4 [(0, .ref b), (1, .ref v1), (2, .ref v2), (3, .int v3)] → W p l e (rmA 2048 84000 z0 (zLim z0)) s m #[Value.ref b] below meth c H locs (z9.sz - z0.sz) (z9.sl - z0.sl) (lw_Z below #[Value.ref b] s) (F0 m 1395 ls [])) : W p l e (rmA 2048 84000 z0 (zLim z0)) s m #[Value.ref b] below meth c H locs (z.sz - z0.sz) (z.sl - z0.sl) (lw_Z below #[Value.ref b] s) (F0 m 346 ls []) := by
  have hx := B.1
  have hb := B.2.1
  unfold f_law_346 at hf
  refine lv_aload_n hx hb dL_law_346 rfl (lv_at hl 1 rfl) ?_
  refine lv_aload_n hx hb dL_law_347 rfl (lv_at hl 0 rfl) ?_
  refine lv_iload_n hx hb dL_law_348 rfl (lv_at hl 3 rfl) ?_
  refine lv_iconst (v := 1) hx hb dL_law_349 (by decide) ?_
  refine lv_iadd hx hb dL_law_350 ?_
  obtain ⟨x1, e, hf⟩ := ob hf
  refine q_sc e hx hb hX hbl hw dL_law_351 ?_
  refine lv_aload_n hx hb dL_law_352 rfl (lv_at hl 0 rfl) ?_
  refine lv_iload_n hx hb dL_law_353 rfl (lv_at hl 3 rfl) ?_
  refine lv_iconst (v := 2) hx hb dL_law_354 (by decide) ?_
  refine lv_iadd hx hb dL_law_355 ?_
  obtain ⟨x2, e, hf⟩ := ob hf
  refine q_sc e hx hb hX hbl hw dL_law_356 ?_
  obtain ⟨⟨x3, h4⟩, e, hf⟩ := ob hf
  refine q_callV (As := [.int x1, .int x2]) (rest := []) (st1 := [.int x3]) (c_X11_worth G e) B hw hM.hz hM.hc0 (k_X11_worth e) (by decide) (ci := 11) rfl rfl my_X11_worth mv_X11_worth tw_3_218 ⟨Nat.le_of_ble_eq_true rfl, Nat.le_of_ble_eq_true rfl⟩ hM.hcs rfl hl.1 rfl rfl (Nat.le_of_ble_eq_true rfl) dL_law_357 (fun H locs hw => ?_)
  refine lv_aload_n hx hb dL_law_360 rfl (lv_at hl 2 rfl) ?_
  refine lv_aload_n hx hb dL_law_361 rfl (lv_at hl 0 rfl) ?_
  refine lv_iload_n hx hb dL_law_362 rfl (lv_at hl 3 rfl) ?_
  refine lv_iconst (v := 1) hx hb dL_law_363 (by decide) ?_
  refine lv_iadd hx hb dL_law_364 ?_
  obtain ⟨x5, e, hf⟩ := ob hf
  refine q_sc e hx hb hX hbl hw dL_law_365 ?_
  refine lv_aload_n hx hb dL_law_366 rfl (lv_at hl 0 rfl) ?_
  refine lv_iload_n hx hb dL_law_367 rfl (lv_at hl 3 rfl) ?_
  refine lv_iconst (v := 2) hx hb dL_law_368 (by decide) ?_
  refine lv_iadd hx hb dL_law_369 ?_
  obtain ⟨x6, e, hf⟩ := ob hf
  refine q_sc e hx hb hX hbl hw dL_law_370 ?_
  obtain ⟨⟨x7, h8⟩, e, hf⟩ := ob hf
  refine q_callV (As := [.int x5, .int x6]) (rest := [.int x3]) (st1 := [.int x7, .int x3]) (c_X12_worth G e) B hw hM.hz hM.hc0 (k_X12_worth e) (by decide) (ci := 12) rfl rfl my_X12_worth mv_X12_worth tw_7_40 ⟨Nat.le_of_ble_eq_true rfl, Nat.le_of_ble_eq_true rfl⟩ hM.hcs rfl hl.1 rfl rfl (Nat.le_of_ble_eq_true rfl) dL_law_371 (fun H locs hw => ?_)
  refine lv_icmp_eq (tgt := 1395) hx hb dL_law_374 (by decide) (fun c9 => ?_) (fun c9 => ?_)
  · have hf := (if_pos c9).symm.trans hf
    obtain ⟨rfl, rfl⟩ := so2 hf
    exact hk _ _ _ hw hM (lv_sub hl [0, 1, 2, 3] rfl)
  · have hf := (if_neg c9).symm.trans hf
    refine lv_iconst (v := 0) hx hb dL_law_377 (by decide) ?_
    cases hf
def f_law_379 (n : Nat) (z0 : Sh) (L : Nat) (xs : Nat → Int32) (v1 v2 : Nat) (z : Sh) (h : Hp) (v3 : Int32) : Option (Hp × Sh) :=
  (sc L xs (v3 + 1)).bind fun x1 =>
  (f_X11_grown n z h v1 x1).bind fun (x2, h3) =>
  (sc L xs (v3 + 1)).bind fun x4 =>
  (f_X12_grown n z h3 v2 x4).bind fun (x5, h6) =>
  if x2 = x5 then
    some (h6, z)
  else
    none
set_option maxHeartbeats 4000000 in
theorem w_law_379 {p : Program} {l : Launch} {e : Env} {s : State} {m : MethodId} {below : List Frame} {meth : Method} {c : Code} {E : Ev} {b L : Nat} {xs : Nat → Int32} {n : Nat} {z0 : Sh} {v1 v2 : Nat} {z : Sh} {h : Hp} {v3 : Int32} {h9 : Hp} {z9 : Sh} {H : Heap} {locs : List Loc} {ls : Array Slot} (G : Gl s E) (B : Bd p s s E m c cL_law 4 RL) (hX : va_X b L xs s s.heap) (hbl : b < s.heap.size) (hw : Pw s s E z h H locs) (hM : Mo s s z0 z (zLim z0)) (hl : lv_has ls 4 [(0, .ref b), (1, .ref v1), (2, .ref v2), (3, .int v3)]) (hf : f_law_379 n z0 L xs v1 v2 z h v3 = some (h9, z9)) (hk : ∀ (H : Heap) (locs : List Loc) (ls : Array Slot), Pw s s E z9 h9 H locs → Mo s s z0 z9 (zLim z0) → lv_has ls 4 [(0, .ref b), (1, .ref v1), (2, .ref v2), (3, .int v3)] → W p l e (rmA 2048 84000 z0 (zLim z0)) s m #[Value.ref b] below meth c H locs (z9.sz - z0.sz) (z9.sl - z0.sl) (lw_Z below #[Value.ref b] s) (F0 m 1395 ls [])) : W p l e (rmA 2048 84000 z0 (zLim z0)) s m #[Value.ref b] below meth c H locs (z.sz - z0.sz) (z.sl - z0.sl) (lw_Z below #[Value.ref b] s) (F0 m 379 ls []) := by
  have hx := B.1
  have hb := B.2.1
  unfold f_law_379 at hf
  refine lv_aload_n hx hb dL_law_379 rfl (lv_at hl 1 rfl) ?_
  refine lv_aload_n hx hb dL_law_380 rfl (lv_at hl 0 rfl) ?_
  refine lv_iload_n hx hb dL_law_381 rfl (lv_at hl 3 rfl) ?_
  refine lv_iconst (v := 1) hx hb dL_law_382 (by decide) ?_
  refine lv_iadd hx hb dL_law_383 ?_
  obtain ⟨x1, e, hf⟩ := ob hf
  refine q_sc e hx hb hX hbl hw dL_law_384 ?_
  obtain ⟨⟨x2, h3⟩, e, hf⟩ := ob hf
  refine q_callV (As := [.int x1]) (rest := []) (st1 := [.int x2]) (c_X11_grown G e) B hw hM.hz hM.hc0 (k_X11_grown e) (by decide) (ci := 11) rfl rfl my_X11_grown mv_X11_grown tw_4_13 ⟨Nat.le_of_ble_eq_true rfl, Nat.le_of_ble_eq_true rfl⟩ hM.hcs rfl hl.1 rfl rfl (Nat.le_of_ble_eq_true rfl) dL_law_385 (fun H locs hw => ?_)
  refine lv_aload_n hx hb dL_law_388 rfl (lv_at hl 2 rfl) ?_
  refine lv_aload_n hx hb dL_law_389 rfl (lv_at hl 0 rfl) ?_
  refine lv_iload_n hx hb dL_law_390 rfl (lv_at hl 3 rfl) ?_
  refine lv_iconst (v := 1) hx hb dL_law_391 (by decide) ?_
  refine lv_iadd hx hb dL_law_392 ?_
  obtain ⟨x4, e, hf⟩ := ob hf
  refine q_sc e hx hb hX hbl hw dL_law_393 ?_
  obtain ⟨⟨x5, h6⟩, e, hf⟩ := ob hf
  refine q_callV (As := [.int x4]) (rest := [.int x2]) (st1 := [.int x5, .int x2]) (c_X12_grown G e) B hw hM.hz hM.hc0 (k_X12_grown e) (by decide) (ci := 12) rfl rfl my_X12_grown mv_X12_grown tw_7_87 ⟨Nat.le_of_ble_eq_true rfl, Nat.le_of_ble_eq_true rfl⟩ hM.hcs rfl hl.1 rfl rfl (Nat.le_of_ble_eq_true rfl) dL_law_394 (fun H locs hw => ?_)
  refine lv_icmp_eq (tgt := 1395) hx hb dL_law_397 (by decide) (fun c7 => ?_) (fun c7 => ?_)
  · have hf := (if_pos c7).symm.trans hf
    obtain ⟨rfl, rfl⟩ := so2 hf
    exact hk _ _ _ hw hM (lv_sub hl [0, 1, 2, 3] rfl)
  · have hf := (if_neg c7).symm.trans hf
    refine lv_iconst (v := 0) hx hb dL_law_400 (by decide) ?_
    cases hf
def f_law_402 (n : Nat) (z0 : Sh) (L : Nat) (xs : Nat → Int32) (v1 v2 : Nat) (z : Sh) (h : Hp) (v3 : Int32) : Option (Hp × Sh) :=
  (sc L xs (v3 + 1)).bind fun x1 =>
  (sc L xs (v3 + 2)).bind fun x2 =>
  (f_X11_live n z h v1 x1 x2).bind fun (x3, h4) =>
  (sc L xs (v3 + 1)).bind fun x5 =>
  (sc L xs (v3 + 2)).bind fun x6 =>
  (f_X12_live n z h4 v2 x5 x6).bind fun (x7, h8) =>
  if x3 = x7 then
    some (h8, z)
  else
    none
set_option maxHeartbeats 4000000 in
theorem w_law_402 {p : Program} {l : Launch} {e : Env} {s : State} {m : MethodId} {below : List Frame} {meth : Method} {c : Code} {E : Ev} {b L : Nat} {xs : Nat → Int32} {n : Nat} {z0 : Sh} {v1 v2 : Nat} {z : Sh} {h : Hp} {v3 : Int32} {h9 : Hp} {z9 : Sh} {H : Heap} {locs : List Loc} {ls : Array Slot} (G : Gl s E) (B : Bd p s s E m c cL_law 4 RL) (hX : va_X b L xs s s.heap) (hbl : b < s.heap.size) (hw : Pw s s E z h H locs) (hM : Mo s s z0 z (zLim z0)) (hl : lv_has ls 4 [(0, .ref b), (1, .ref v1), (2, .ref v2), (3, .int v3)]) (hf : f_law_402 n z0 L xs v1 v2 z h v3 = some (h9, z9)) (hk : ∀ (H : Heap) (locs : List Loc) (ls : Array Slot), Pw s s E z9 h9 H locs → Mo s s z0 z9 (zLim z0) → lv_has ls 4 [(0, .ref b), (1, .ref v1), (2, .ref v2), (3, .int v3)] → W p l e (rmA 2048 84000 z0 (zLim z0)) s m #[Value.ref b] below meth c H locs (z9.sz - z0.sz) (z9.sl - z0.sl) (lw_Z below #[Value.ref b] s) (F0 m 1395 ls [])) : W p l e (rmA 2048 84000 z0 (zLim z0)) s m #[Value.ref b] below meth c H locs (z.sz - z0.sz) (z.sl - z0.sl) (lw_Z below #[Value.ref b] s) (F0 m 402 ls []) := by
  have hx := B.1
  have hb := B.2.1
  unfold f_law_402 at hf
  refine lv_aload_n hx hb dL_law_402 rfl (lv_at hl 1 rfl) ?_
  refine lv_aload_n hx hb dL_law_403 rfl (lv_at hl 0 rfl) ?_
  refine lv_iload_n hx hb dL_law_404 rfl (lv_at hl 3 rfl) ?_
  refine lv_iconst (v := 1) hx hb dL_law_405 (by decide) ?_
  refine lv_iadd hx hb dL_law_406 ?_
  obtain ⟨x1, e, hf⟩ := ob hf
  refine q_sc e hx hb hX hbl hw dL_law_407 ?_
  refine lv_aload_n hx hb dL_law_408 rfl (lv_at hl 0 rfl) ?_
  refine lv_iload_n hx hb dL_law_409 rfl (lv_at hl 3 rfl) ?_
  refine lv_iconst (v := 2) hx hb dL_law_410 (by decide) ?_
  refine lv_iadd hx hb dL_law_411 ?_
  obtain ⟨x2, e, hf⟩ := ob hf
  refine q_sc e hx hb hX hbl hw dL_law_412 ?_
  obtain ⟨⟨x3, h4⟩, e, hf⟩ := ob hf
  refine q_callV (As := [.int x1, .int x2]) (rest := []) (st1 := [.int x3]) (c_X11_live G e) B hw hM.hz hM.hc0 (k_X11_live e) (by decide) (ci := 11) rfl rfl my_X11_live mv_X11_live tw_4_21 ⟨Nat.le_of_ble_eq_true rfl, Nat.le_of_ble_eq_true rfl⟩ hM.hcs rfl hl.1 rfl rfl (Nat.le_of_ble_eq_true rfl) dL_law_413 (fun H locs hw => ?_)
  refine lv_aload_n hx hb dL_law_416 rfl (lv_at hl 2 rfl) ?_
  refine lv_aload_n hx hb dL_law_417 rfl (lv_at hl 0 rfl) ?_
  refine lv_iload_n hx hb dL_law_418 rfl (lv_at hl 3 rfl) ?_
  refine lv_iconst (v := 1) hx hb dL_law_419 (by decide) ?_
  refine lv_iadd hx hb dL_law_420 ?_
  obtain ⟨x5, e, hf⟩ := ob hf
  refine q_sc e hx hb hX hbl hw dL_law_421 ?_
  refine lv_aload_n hx hb dL_law_422 rfl (lv_at hl 0 rfl) ?_
  refine lv_iload_n hx hb dL_law_423 rfl (lv_at hl 3 rfl) ?_
  refine lv_iconst (v := 2) hx hb dL_law_424 (by decide) ?_
  refine lv_iadd hx hb dL_law_425 ?_
  obtain ⟨x6, e, hf⟩ := ob hf
  refine q_sc e hx hb hX hbl hw dL_law_426 ?_
  obtain ⟨⟨x7, h8⟩, e, hf⟩ := ob hf
  refine q_callV (As := [.int x5, .int x6]) (rest := [.int x3]) (st1 := [.int x7, .int x3]) (c_X12_live G e) B hw hM.hz hM.hc0 (k_X12_live e) (by decide) (ci := 12) rfl rfl my_X12_live mv_X12_live tw_7_95 ⟨Nat.le_of_ble_eq_true rfl, Nat.le_of_ble_eq_true rfl⟩ hM.hcs rfl hl.1 rfl rfl (Nat.le_of_ble_eq_true rfl) dL_law_427 (fun H locs hw => ?_)
  refine lv_icmp_eq (tgt := 1395) hx hb dL_law_430 (by decide) (fun c9 => ?_) (fun c9 => ?_)
  · have hf := (if_pos c9).symm.trans hf
    obtain ⟨rfl, rfl⟩ := so2 hf
    exact hk _ _ _ hw hM (lv_sub hl [0, 1, 2, 3] rfl)
  · have hf := (if_neg c9).symm.trans hf
    refine lv_iconst (v := 0) hx hb dL_law_433 (by decide) ?_
    cases hf
def f_law_435 (n : Nat) (z0 : Sh) (L : Nat) (xs : Nat → Int32) (v1 v2 : Nat) (z : Sh) (h : Hp) (v3 : Int32) : Option (Hp × Sh) :=
  (sc L xs (v3 + 1)).bind fun x1 =>
  (f_X11_draw n z h v1 x1).bind fun (x2, h3) =>
  (sc L xs (v3 + 1)).bind fun x4 =>
  (f_X12_draw n z h3 v2 x4).bind fun (x5, h6) =>
  if x2 = x5 then
    some (h6, z)
  else
    none
set_option maxHeartbeats 4000000 in
theorem w_law_435 {p : Program} {l : Launch} {e : Env} {s : State} {m : MethodId} {below : List Frame} {meth : Method} {c : Code} {E : Ev} {b L : Nat} {xs : Nat → Int32} {n : Nat} {z0 : Sh} {v1 v2 : Nat} {z : Sh} {h : Hp} {v3 : Int32} {h9 : Hp} {z9 : Sh} {H : Heap} {locs : List Loc} {ls : Array Slot} (G : Gl s E) (B : Bd p s s E m c cL_law 4 RL) (hX : va_X b L xs s s.heap) (hbl : b < s.heap.size) (hw : Pw s s E z h H locs) (hM : Mo s s z0 z (zLim z0)) (hl : lv_has ls 4 [(0, .ref b), (1, .ref v1), (2, .ref v2), (3, .int v3)]) (hf : f_law_435 n z0 L xs v1 v2 z h v3 = some (h9, z9)) (hk : ∀ (H : Heap) (locs : List Loc) (ls : Array Slot), Pw s s E z9 h9 H locs → Mo s s z0 z9 (zLim z0) → lv_has ls 4 [(0, .ref b), (1, .ref v1), (2, .ref v2), (3, .int v3)] → W p l e (rmA 2048 84000 z0 (zLim z0)) s m #[Value.ref b] below meth c H locs (z9.sz - z0.sz) (z9.sl - z0.sl) (lw_Z below #[Value.ref b] s) (F0 m 1395 ls [])) : W p l e (rmA 2048 84000 z0 (zLim z0)) s m #[Value.ref b] below meth c H locs (z.sz - z0.sz) (z.sl - z0.sl) (lw_Z below #[Value.ref b] s) (F0 m 435 ls []) := by
  have hx := B.1
  have hb := B.2.1
  unfold f_law_435 at hf
  refine lv_aload_n hx hb dL_law_435 rfl (lv_at hl 1 rfl) ?_
  refine lv_aload_n hx hb dL_law_436 rfl (lv_at hl 0 rfl) ?_
  refine lv_iload_n hx hb dL_law_437 rfl (lv_at hl 3 rfl) ?_
  refine lv_iconst (v := 1) hx hb dL_law_438 (by decide) ?_
  refine lv_iadd hx hb dL_law_439 ?_
  obtain ⟨x1, e, hf⟩ := ob hf
  refine q_sc e hx hb hX hbl hw dL_law_440 ?_
  obtain ⟨⟨x2, h3⟩, e, hf⟩ := ob hf
  refine q_callV (As := [.int x1]) (rest := []) (st1 := [.int x2]) (c_X11_draw G e) B hw hM.hz hM.hc0 (k_X11_draw e) (by decide) (ci := 11) rfl rfl my_X11_draw mv_X11_draw tw_4_46 ⟨Nat.le_of_ble_eq_true rfl, Nat.le_of_ble_eq_true rfl⟩ hM.hcs rfl hl.1 rfl rfl (Nat.le_of_ble_eq_true rfl) dL_law_441 (fun H locs hw => ?_)
  refine lv_aload_n hx hb dL_law_444 rfl (lv_at hl 2 rfl) ?_
  refine lv_aload_n hx hb dL_law_445 rfl (lv_at hl 0 rfl) ?_
  refine lv_iload_n hx hb dL_law_446 rfl (lv_at hl 3 rfl) ?_
  refine lv_iconst (v := 1) hx hb dL_law_447 (by decide) ?_
  refine lv_iadd hx hb dL_law_448 ?_
  obtain ⟨x4, e, hf⟩ := ob hf
  refine q_sc e hx hb hX hbl hw dL_law_449 ?_
  obtain ⟨⟨x5, h6⟩, e, hf⟩ := ob hf
  refine q_callV (As := [.int x4]) (rest := [.int x2]) (st1 := [.int x5, .int x2]) (c_X12_draw G e) B hw hM.hz hM.hc0 (k_X12_draw e) (by decide) (ci := 12) rfl rfl my_X12_draw mv_X12_draw tw_7_123 ⟨Nat.le_of_ble_eq_true rfl, Nat.le_of_ble_eq_true rfl⟩ hM.hcs rfl hl.1 rfl rfl (Nat.le_of_ble_eq_true rfl) dL_law_450 (fun H locs hw => ?_)
  refine lv_icmp_eq (tgt := 1395) hx hb dL_law_453 (by decide) (fun c7 => ?_) (fun c7 => ?_)
  · have hf := (if_pos c7).symm.trans hf
    obtain ⟨rfl, rfl⟩ := so2 hf
    exact hk _ _ _ hw hM (lv_sub hl [0, 1, 2, 3] rfl)
  · have hf := (if_neg c7).symm.trans hf
    refine lv_iconst (v := 0) hx hb dL_law_456 (by decide) ?_
    cases hf
def f_law_458 (n : Nat) (z0 : Sh) (L : Nat) (xs : Nat → Int32) (v1 v2 : Nat) (z : Sh) (h : Hp) (v3 : Int32) : Option (Hp × Sh) :=
  (sc L xs (v3 + 1)).bind fun x1 =>
  (sc L xs (v3 + 2)).bind fun x2 =>
  (f_X11_pledge z h v1 x1 x2).bind fun (x3, h4) =>
  (sc L xs (v3 + 1)).bind fun x5 =>
  (sc L xs (v3 + 2)).bind fun x6 =>
  (f_X12_pledge n z h4 v2 x5 x6).bind fun (x7, h8) =>
  if x3 = x7 then
    some (h8, z)
  else
    none
set_option maxHeartbeats 4000000 in
theorem w_law_458 {p : Program} {l : Launch} {e : Env} {s : State} {m : MethodId} {below : List Frame} {meth : Method} {c : Code} {E : Ev} {b L : Nat} {xs : Nat → Int32} {n : Nat} {z0 : Sh} {v1 v2 : Nat} {z : Sh} {h : Hp} {v3 : Int32} {h9 : Hp} {z9 : Sh} {H : Heap} {locs : List Loc} {ls : Array Slot} (G : Gl s E) (B : Bd p s s E m c cL_law 4 RL) (hX : va_X b L xs s s.heap) (hbl : b < s.heap.size) (hw : Pw s s E z h H locs) (hM : Mo s s z0 z (zLim z0)) (hl : lv_has ls 4 [(0, .ref b), (1, .ref v1), (2, .ref v2), (3, .int v3)]) (hf : f_law_458 n z0 L xs v1 v2 z h v3 = some (h9, z9)) (hk : ∀ (H : Heap) (locs : List Loc) (ls : Array Slot), Pw s s E z9 h9 H locs → Mo s s z0 z9 (zLim z0) → lv_has ls 4 [(0, .ref b), (1, .ref v1), (2, .ref v2), (3, .int v3)] → W p l e (rmA 2048 84000 z0 (zLim z0)) s m #[Value.ref b] below meth c H locs (z9.sz - z0.sz) (z9.sl - z0.sl) (lw_Z below #[Value.ref b] s) (F0 m 1395 ls [])) : W p l e (rmA 2048 84000 z0 (zLim z0)) s m #[Value.ref b] below meth c H locs (z.sz - z0.sz) (z.sl - z0.sl) (lw_Z below #[Value.ref b] s) (F0 m 458 ls []) := by
  have hx := B.1
  have hb := B.2.1
  unfold f_law_458 at hf
  refine lv_aload_n hx hb dL_law_458 rfl (lv_at hl 1 rfl) ?_
  refine lv_aload_n hx hb dL_law_459 rfl (lv_at hl 0 rfl) ?_
  refine lv_iload_n hx hb dL_law_460 rfl (lv_at hl 3 rfl) ?_
  refine lv_iconst (v := 1) hx hb dL_law_461 (by decide) ?_
  refine lv_iadd hx hb dL_law_462 ?_
  obtain ⟨x1, e, hf⟩ := ob hf
  refine q_sc e hx hb hX hbl hw dL_law_463 ?_
  refine lv_aload_n hx hb dL_law_464 rfl (lv_at hl 0 rfl) ?_
  refine lv_iload_n hx hb dL_law_465 rfl (lv_at hl 3 rfl) ?_
  refine lv_iconst (v := 2) hx hb dL_law_466 (by decide) ?_
  refine lv_iadd hx hb dL_law_467 ?_
  obtain ⟨x2, e, hf⟩ := ob hf
  refine q_sc e hx hb hX hbl hw dL_law_468 ?_
  obtain ⟨⟨x3, h4⟩, e, hf⟩ := ob hf
  refine q_callV (As := [.int x1, .int x2]) (rest := []) (st1 := [.int x3]) (c_X11_pledge G e) B hw hM.hz hM.hc0 (k_X11_pledge e) (by decide) (ci := 11) rfl rfl my_X11_pledge mv_X11_pledge tw_4_55 ⟨Nat.le_of_ble_eq_true rfl, Nat.le_of_ble_eq_true rfl⟩ hM.hcs rfl hl.1 rfl rfl (Nat.le_of_ble_eq_true rfl) dL_law_469 (fun H locs hw => ?_)
  refine lv_aload_n hx hb dL_law_472 rfl (lv_at hl 2 rfl) ?_
  refine lv_aload_n hx hb dL_law_473 rfl (lv_at hl 0 rfl) ?_
  refine lv_iload_n hx hb dL_law_474 rfl (lv_at hl 3 rfl) ?_
  refine lv_iconst (v := 1) hx hb dL_law_475 (by decide) ?_
  refine lv_iadd hx hb dL_law_476 ?_
  obtain ⟨x5, e, hf⟩ := ob hf
  refine q_sc e hx hb hX hbl hw dL_law_477 ?_
  refine lv_aload_n hx hb dL_law_478 rfl (lv_at hl 0 rfl) ?_
  refine lv_iload_n hx hb dL_law_479 rfl (lv_at hl 3 rfl) ?_
  refine lv_iconst (v := 2) hx hb dL_law_480 (by decide) ?_
  refine lv_iadd hx hb dL_law_481 ?_
  obtain ⟨x6, e, hf⟩ := ob hf
  refine q_sc e hx hb hX hbl hw dL_law_482 ?_
  obtain ⟨⟨x7, h8⟩, e, hf⟩ := ob hf
  refine q_callV (As := [.int x5, .int x6]) (rest := [.int x3]) (st1 := [.int x7, .int x3]) (c_X12_pledge G e) B hw hM.hz hM.hc0 (k_X12_pledge e) (by decide) (ci := 12) rfl rfl my_X12_pledge mv_X12_pledge tw_7_139 ⟨Nat.le_of_ble_eq_true rfl, Nat.le_of_ble_eq_true rfl⟩ hM.hcs rfl hl.1 rfl rfl (Nat.le_of_ble_eq_true rfl) dL_law_483 (fun H locs hw => ?_)
  refine lv_icmp_eq (tgt := 1395) hx hb dL_law_486 (by decide) (fun c9 => ?_) (fun c9 => ?_)
  · have hf := (if_pos c9).symm.trans hf
    obtain ⟨rfl, rfl⟩ := so2 hf
    exact hk _ _ _ hw hM (lv_sub hl [0, 1, 2, 3] rfl)
  · have hf := (if_neg c9).symm.trans hf
    refine lv_iconst (v := 0) hx hb dL_law_489 (by decide) ?_
    cases hf
def f_law_491 (n : Nat) (z0 : Sh) (L : Nat) (xs : Nat → Int32) (v1 v2 : Nat) (z : Sh) (h : Hp) (v3 : Int32) : Option (Hp × Sh) :=
  (sc L xs (v3 + 1)).bind fun x1 =>
  (f_X11_redeem z h v1 x1).bind fun (x2, h3) =>
  (sc L xs (v3 + 1)).bind fun x4 =>
  (f_X12_redeem n z h3 v2 x4).bind fun (x5, h6) =>
  if x2 = x5 then
    some (h6, z)
  else
    none
set_option maxHeartbeats 4000000 in
theorem w_law_491 {p : Program} {l : Launch} {e : Env} {s : State} {m : MethodId} {below : List Frame} {meth : Method} {c : Code} {E : Ev} {b L : Nat} {xs : Nat → Int32} {n : Nat} {z0 : Sh} {v1 v2 : Nat} {z : Sh} {h : Hp} {v3 : Int32} {h9 : Hp} {z9 : Sh} {H : Heap} {locs : List Loc} {ls : Array Slot} (G : Gl s E) (B : Bd p s s E m c cL_law 4 RL) (hX : va_X b L xs s s.heap) (hbl : b < s.heap.size) (hw : Pw s s E z h H locs) (hM : Mo s s z0 z (zLim z0)) (hl : lv_has ls 4 [(0, .ref b), (1, .ref v1), (2, .ref v2), (3, .int v3)]) (hf : f_law_491 n z0 L xs v1 v2 z h v3 = some (h9, z9)) (hk : ∀ (H : Heap) (locs : List Loc) (ls : Array Slot), Pw s s E z9 h9 H locs → Mo s s z0 z9 (zLim z0) → lv_has ls 4 [(0, .ref b), (1, .ref v1), (2, .ref v2), (3, .int v3)] → W p l e (rmA 2048 84000 z0 (zLim z0)) s m #[Value.ref b] below meth c H locs (z9.sz - z0.sz) (z9.sl - z0.sl) (lw_Z below #[Value.ref b] s) (F0 m 1395 ls [])) : W p l e (rmA 2048 84000 z0 (zLim z0)) s m #[Value.ref b] below meth c H locs (z.sz - z0.sz) (z.sl - z0.sl) (lw_Z below #[Value.ref b] s) (F0 m 491 ls []) := by
  have hx := B.1
  have hb := B.2.1
  unfold f_law_491 at hf
  refine lv_aload_n hx hb dL_law_491 rfl (lv_at hl 1 rfl) ?_
  refine lv_aload_n hx hb dL_law_492 rfl (lv_at hl 0 rfl) ?_
  refine lv_iload_n hx hb dL_law_493 rfl (lv_at hl 3 rfl) ?_
  refine lv_iconst (v := 1) hx hb dL_law_494 (by decide) ?_
  refine lv_iadd hx hb dL_law_495 ?_
  obtain ⟨x1, e, hf⟩ := ob hf
  refine q_sc e hx hb hX hbl hw dL_law_496 ?_
  obtain ⟨⟨x2, h3⟩, e, hf⟩ := ob hf
  refine q_callV (As := [.int x1]) (rest := []) (st1 := [.int x2]) (c_X11_redeem G e) B hw hM.hz hM.hc0 (k_X11_redeem e) (by decide) (ci := 11) rfl rfl my_X11_redeem mv_X11_redeem tw_4_63 ⟨Nat.le_of_ble_eq_true rfl, Nat.le_of_ble_eq_true rfl⟩ hM.hcs rfl hl.1 rfl rfl (Nat.le_of_ble_eq_true rfl) dL_law_497 (fun H locs hw => ?_)
  refine lv_aload_n hx hb dL_law_500 rfl (lv_at hl 2 rfl) ?_
  refine lv_aload_n hx hb dL_law_501 rfl (lv_at hl 0 rfl) ?_
  refine lv_iload_n hx hb dL_law_502 rfl (lv_at hl 3 rfl) ?_
  refine lv_iconst (v := 1) hx hb dL_law_503 (by decide) ?_
  refine lv_iadd hx hb dL_law_504 ?_
  obtain ⟨x4, e, hf⟩ := ob hf
  refine q_sc e hx hb hX hbl hw dL_law_505 ?_
  obtain ⟨⟨x5, h6⟩, e, hf⟩ := ob hf
  refine q_callV (As := [.int x4]) (rest := [.int x2]) (st1 := [.int x5, .int x2]) (c_X12_redeem G e) B hw hM.hz hM.hc0 (k_X12_redeem e) (by decide) (ci := 12) rfl rfl my_X12_redeem mv_X12_redeem tw_7_152 ⟨Nat.le_of_ble_eq_true rfl, Nat.le_of_ble_eq_true rfl⟩ hM.hcs rfl hl.1 rfl rfl (Nat.le_of_ble_eq_true rfl) dL_law_506 (fun H locs hw => ?_)
  refine lv_icmp_eq (tgt := 1395) hx hb dL_law_509 (by decide) (fun c7 => ?_) (fun c7 => ?_)
  · have hf := (if_pos c7).symm.trans hf
    obtain ⟨rfl, rfl⟩ := so2 hf
    exact hk _ _ _ hw hM (lv_sub hl [0, 1, 2, 3] rfl)
  · have hf := (if_neg c7).symm.trans hf
    refine lv_iconst (v := 0) hx hb dL_law_512 (by decide) ?_
    cases hf
def f_law_514 (n : Nat) (z0 : Sh) (L : Nat) (xs : Nat → Int32) (v1 v2 : Nat) (z : Sh) (h : Hp) (v3 : Int32) : Option (Hp × Sh) :=
  (sc L xs (v3 + 1)).bind fun x1 =>
  (sc L xs (v3 + 2)).bind fun x2 =>
  (f_X11_talent z h v1 x1 x2).bind fun (x3, h4) =>
  (sc L xs (v3 + 1)).bind fun x5 =>
  (sc L xs (v3 + 2)).bind fun x6 =>
  (f_X12_talent n z h4 v2 x5 x6).bind fun (x7, h8) =>
  if x3 = x7 then
    some (h8, z)
  else
    none
set_option maxHeartbeats 4000000 in
theorem w_law_514 {p : Program} {l : Launch} {e : Env} {s : State} {m : MethodId} {below : List Frame} {meth : Method} {c : Code} {E : Ev} {b L : Nat} {xs : Nat → Int32} {n : Nat} {z0 : Sh} {v1 v2 : Nat} {z : Sh} {h : Hp} {v3 : Int32} {h9 : Hp} {z9 : Sh} {H : Heap} {locs : List Loc} {ls : Array Slot} (G : Gl s E) (B : Bd p s s E m c cL_law 4 RL) (hX : va_X b L xs s s.heap) (hbl : b < s.heap.size) (hw : Pw s s E z h H locs) (hM : Mo s s z0 z (zLim z0)) (hl : lv_has ls 4 [(0, .ref b), (1, .ref v1), (2, .ref v2), (3, .int v3)]) (hf : f_law_514 n z0 L xs v1 v2 z h v3 = some (h9, z9)) (hk : ∀ (H : Heap) (locs : List Loc) (ls : Array Slot), Pw s s E z9 h9 H locs → Mo s s z0 z9 (zLim z0) → lv_has ls 4 [(0, .ref b), (1, .ref v1), (2, .ref v2), (3, .int v3)] → W p l e (rmA 2048 84000 z0 (zLim z0)) s m #[Value.ref b] below meth c H locs (z9.sz - z0.sz) (z9.sl - z0.sl) (lw_Z below #[Value.ref b] s) (F0 m 1395 ls [])) : W p l e (rmA 2048 84000 z0 (zLim z0)) s m #[Value.ref b] below meth c H locs (z.sz - z0.sz) (z.sl - z0.sl) (lw_Z below #[Value.ref b] s) (F0 m 514 ls []) := by
  have hx := B.1
  have hb := B.2.1
  unfold f_law_514 at hf
  refine lv_aload_n hx hb dL_law_514 rfl (lv_at hl 1 rfl) ?_
  refine lv_aload_n hx hb dL_law_515 rfl (lv_at hl 0 rfl) ?_
  refine lv_iload_n hx hb dL_law_516 rfl (lv_at hl 3 rfl) ?_
  refine lv_iconst (v := 1) hx hb dL_law_517 (by decide) ?_
  refine lv_iadd hx hb dL_law_518 ?_
  obtain ⟨x1, e, hf⟩ := ob hf
  refine q_sc e hx hb hX hbl hw dL_law_519 ?_
  refine lv_aload_n hx hb dL_law_520 rfl (lv_at hl 0 rfl) ?_
  refine lv_iload_n hx hb dL_law_521 rfl (lv_at hl 3 rfl) ?_
  refine lv_iconst (v := 2) hx hb dL_law_522 (by decide) ?_
  refine lv_iadd hx hb dL_law_523 ?_
  obtain ⟨x2, e, hf⟩ := ob hf
  refine q_sc e hx hb hX hbl hw dL_law_524 ?_
  obtain ⟨⟨x3, h4⟩, e, hf⟩ := ob hf
  refine q_callV (As := [.int x1, .int x2]) (rest := []) (st1 := [.int x3]) (c_X11_talent G e) B hw hM.hz hM.hc0 (k_X11_talent e) (by decide) (ci := 11) rfl rfl my_X11_talent mv_X11_talent tw_4_71 ⟨Nat.le_of_ble_eq_true rfl, Nat.le_of_ble_eq_true rfl⟩ hM.hcs rfl hl.1 rfl rfl (Nat.le_of_ble_eq_true rfl) dL_law_525 (fun H locs hw => ?_)
  refine lv_aload_n hx hb dL_law_528 rfl (lv_at hl 2 rfl) ?_
  refine lv_aload_n hx hb dL_law_529 rfl (lv_at hl 0 rfl) ?_
  refine lv_iload_n hx hb dL_law_530 rfl (lv_at hl 3 rfl) ?_
  refine lv_iconst (v := 1) hx hb dL_law_531 (by decide) ?_
  refine lv_iadd hx hb dL_law_532 ?_
  obtain ⟨x5, e, hf⟩ := ob hf
  refine q_sc e hx hb hX hbl hw dL_law_533 ?_
  refine lv_aload_n hx hb dL_law_534 rfl (lv_at hl 0 rfl) ?_
  refine lv_iload_n hx hb dL_law_535 rfl (lv_at hl 3 rfl) ?_
  refine lv_iconst (v := 2) hx hb dL_law_536 (by decide) ?_
  refine lv_iadd hx hb dL_law_537 ?_
  obtain ⟨x6, e, hf⟩ := ob hf
  refine q_sc e hx hb hX hbl hw dL_law_538 ?_
  obtain ⟨⟨x7, h8⟩, e, hf⟩ := ob hf
  refine q_callV (As := [.int x5, .int x6]) (rest := [.int x3]) (st1 := [.int x7, .int x3]) (c_X12_talent G e) B hw hM.hz hM.hc0 (k_X12_talent e) (by decide) (ci := 12) rfl rfl my_X12_talent mv_X12_talent tw_7_160 ⟨Nat.le_of_ble_eq_true rfl, Nat.le_of_ble_eq_true rfl⟩ hM.hcs rfl hl.1 rfl rfl (Nat.le_of_ble_eq_true rfl) dL_law_539 (fun H locs hw => ?_)
  refine lv_icmp_eq (tgt := 1395) hx hb dL_law_542 (by decide) (fun c9 => ?_) (fun c9 => ?_)
  · have hf := (if_pos c9).symm.trans hf
    obtain ⟨rfl, rfl⟩ := so2 hf
    exact hk _ _ _ hw hM (lv_sub hl [0, 1, 2, 3] rfl)
  · have hf := (if_neg c9).symm.trans hf
    refine lv_iconst (v := 0) hx hb dL_law_545 (by decide) ?_
    cases hf
def f_law_547 (n : Nat) (z0 : Sh) (L : Nat) (xs : Nat → Int32) (v1 v2 : Nat) (z : Sh) (h : Hp) (v3 : Int32) : Option (Hp × Sh) :=
  (sc L xs (v3 + 1)).bind fun x1 =>
  (f_X11_undo z h v1 x1).bind fun (x2, h3) =>
  (sc L xs (v3 + 1)).bind fun x4 =>
  (f_X12_undo n z h3 v2 x4).bind fun (x5, h6) =>
  if x2 = x5 then
    some (h6, z)
  else
    none
set_option maxHeartbeats 4000000 in
theorem w_law_547 {p : Program} {l : Launch} {e : Env} {s : State} {m : MethodId} {below : List Frame} {meth : Method} {c : Code} {E : Ev} {b L : Nat} {xs : Nat → Int32} {n : Nat} {z0 : Sh} {v1 v2 : Nat} {z : Sh} {h : Hp} {v3 : Int32} {h9 : Hp} {z9 : Sh} {H : Heap} {locs : List Loc} {ls : Array Slot} (G : Gl s E) (B : Bd p s s E m c cL_law 4 RL) (hX : va_X b L xs s s.heap) (hbl : b < s.heap.size) (hw : Pw s s E z h H locs) (hM : Mo s s z0 z (zLim z0)) (hl : lv_has ls 4 [(0, .ref b), (1, .ref v1), (2, .ref v2), (3, .int v3)]) (hf : f_law_547 n z0 L xs v1 v2 z h v3 = some (h9, z9)) (hk : ∀ (H : Heap) (locs : List Loc) (ls : Array Slot), Pw s s E z9 h9 H locs → Mo s s z0 z9 (zLim z0) → lv_has ls 4 [(0, .ref b), (1, .ref v1), (2, .ref v2), (3, .int v3)] → W p l e (rmA 2048 84000 z0 (zLim z0)) s m #[Value.ref b] below meth c H locs (z9.sz - z0.sz) (z9.sl - z0.sl) (lw_Z below #[Value.ref b] s) (F0 m 1395 ls [])) : W p l e (rmA 2048 84000 z0 (zLim z0)) s m #[Value.ref b] below meth c H locs (z.sz - z0.sz) (z.sl - z0.sl) (lw_Z below #[Value.ref b] s) (F0 m 547 ls []) := by
  have hx := B.1
  have hb := B.2.1
  unfold f_law_547 at hf
  refine lv_aload_n hx hb dL_law_547 rfl (lv_at hl 1 rfl) ?_
  refine lv_aload_n hx hb dL_law_548 rfl (lv_at hl 0 rfl) ?_
  refine lv_iload_n hx hb dL_law_549 rfl (lv_at hl 3 rfl) ?_
  refine lv_iconst (v := 1) hx hb dL_law_550 (by decide) ?_
  refine lv_iadd hx hb dL_law_551 ?_
  obtain ⟨x1, e, hf⟩ := ob hf
  refine q_sc e hx hb hX hbl hw dL_law_552 ?_
  obtain ⟨⟨x2, h3⟩, e, hf⟩ := ob hf
  refine q_callV (As := [.int x1]) (rest := []) (st1 := [.int x2]) (c_X11_undo G e) B hw hM.hz hM.hc0 (k_X11_undo e) (by decide) (ci := 11) rfl rfl my_X11_undo mv_X11_undo tw_4_76 ⟨Nat.le_of_ble_eq_true rfl, Nat.le_of_ble_eq_true rfl⟩ hM.hcs rfl hl.1 rfl rfl (Nat.le_of_ble_eq_true rfl) dL_law_553 (fun H locs hw => ?_)
  refine lv_aload_n hx hb dL_law_556 rfl (lv_at hl 2 rfl) ?_
  refine lv_aload_n hx hb dL_law_557 rfl (lv_at hl 0 rfl) ?_
  refine lv_iload_n hx hb dL_law_558 rfl (lv_at hl 3 rfl) ?_
  refine lv_iconst (v := 1) hx hb dL_law_559 (by decide) ?_
  refine lv_iadd hx hb dL_law_560 ?_
  obtain ⟨x4, e, hf⟩ := ob hf
  refine q_sc e hx hb hX hbl hw dL_law_561 ?_
  obtain ⟨⟨x5, h6⟩, e, hf⟩ := ob hf
  refine q_callV (As := [.int x4]) (rest := [.int x2]) (st1 := [.int x5, .int x2]) (c_X12_undo G e) B hw hM.hz hM.hc0 (k_X12_undo e) (by decide) (ci := 12) rfl rfl my_X12_undo mv_X12_undo tw_7_166 ⟨Nat.le_of_ble_eq_true rfl, Nat.le_of_ble_eq_true rfl⟩ hM.hcs rfl hl.1 rfl rfl (Nat.le_of_ble_eq_true rfl) dL_law_562 (fun H locs hw => ?_)
  refine lv_icmp_eq (tgt := 1395) hx hb dL_law_565 (by decide) (fun c7 => ?_) (fun c7 => ?_)
  · have hf := (if_pos c7).symm.trans hf
    obtain ⟨rfl, rfl⟩ := so2 hf
    exact hk _ _ _ hw hM (lv_sub hl [0, 1, 2, 3] rfl)
  · have hf := (if_neg c7).symm.trans hf
    refine lv_iconst (v := 0) hx hb dL_law_568 (by decide) ?_
    cases hf
def f_law_570 (n : Nat) (z0 : Sh) (L : Nat) (xs : Nat → Int32) (v1 v2 : Nat) (z : Sh) (h : Hp) (v3 : Int32) : Option (Hp × Sh) :=
  (sc L xs (v3 + 1)).bind fun x1 =>
  (sc L xs (v3 + 2)).bind fun x2 =>
  (f_X11_judge n z h v1 x1 x2).bind fun (x3, h4) =>
  (sc L xs (v3 + 1)).bind fun x5 =>
  (sc L xs (v3 + 2)).bind fun x6 =>
  (f_X12_judge n z h4 v2 x5 x6).bind fun (x7, h8) =>
  if x3 = x7 then
    some (h8, z)
  else
    none
set_option maxHeartbeats 4000000 in
theorem w_law_570 {p : Program} {l : Launch} {e : Env} {s : State} {m : MethodId} {below : List Frame} {meth : Method} {c : Code} {E : Ev} {b L : Nat} {xs : Nat → Int32} {n : Nat} {z0 : Sh} {v1 v2 : Nat} {z : Sh} {h : Hp} {v3 : Int32} {h9 : Hp} {z9 : Sh} {H : Heap} {locs : List Loc} {ls : Array Slot} (G : Gl s E) (B : Bd p s s E m c cL_law 4 RL) (hX : va_X b L xs s s.heap) (hbl : b < s.heap.size) (hw : Pw s s E z h H locs) (hM : Mo s s z0 z (zLim z0)) (hl : lv_has ls 4 [(0, .ref b), (1, .ref v1), (2, .ref v2), (3, .int v3)]) (hf : f_law_570 n z0 L xs v1 v2 z h v3 = some (h9, z9)) (hk : ∀ (H : Heap) (locs : List Loc) (ls : Array Slot), Pw s s E z9 h9 H locs → Mo s s z0 z9 (zLim z0) → lv_has ls 4 [(0, .ref b), (1, .ref v1), (2, .ref v2), (3, .int v3)] → W p l e (rmA 2048 84000 z0 (zLim z0)) s m #[Value.ref b] below meth c H locs (z9.sz - z0.sz) (z9.sl - z0.sl) (lw_Z below #[Value.ref b] s) (F0 m 1395 ls [])) : W p l e (rmA 2048 84000 z0 (zLim z0)) s m #[Value.ref b] below meth c H locs (z.sz - z0.sz) (z.sl - z0.sl) (lw_Z below #[Value.ref b] s) (F0 m 570 ls []) := by
  have hx := B.1
  have hb := B.2.1
  unfold f_law_570 at hf
  refine lv_aload_n hx hb dL_law_570 rfl (lv_at hl 1 rfl) ?_
  refine lv_aload_n hx hb dL_law_571 rfl (lv_at hl 0 rfl) ?_
  refine lv_iload_n hx hb dL_law_572 rfl (lv_at hl 3 rfl) ?_
  refine lv_iconst (v := 1) hx hb dL_law_573 (by decide) ?_
  refine lv_iadd hx hb dL_law_574 ?_
  obtain ⟨x1, e, hf⟩ := ob hf
  refine q_sc e hx hb hX hbl hw dL_law_575 ?_
  refine lv_aload_n hx hb dL_law_576 rfl (lv_at hl 0 rfl) ?_
  refine lv_iload_n hx hb dL_law_577 rfl (lv_at hl 3 rfl) ?_
  refine lv_iconst (v := 2) hx hb dL_law_578 (by decide) ?_
  refine lv_iadd hx hb dL_law_579 ?_
  obtain ⟨x2, e, hf⟩ := ob hf
  refine q_sc e hx hb hX hbl hw dL_law_580 ?_
  obtain ⟨⟨x3, h4⟩, e, hf⟩ := ob hf
  refine q_callV (As := [.int x1, .int x2]) (rest := []) (st1 := [.int x3]) (c_X11_judge G e) B hw hM.hz hM.hc0 (k_X11_judge e) (by decide) (ci := 11) rfl rfl my_X11_judge mv_X11_judge tw_4_87 ⟨Nat.le_of_ble_eq_true rfl, Nat.le_of_ble_eq_true rfl⟩ hM.hcs rfl hl.1 rfl rfl (Nat.le_of_ble_eq_true rfl) dL_law_581 (fun H locs hw => ?_)
  refine lv_aload_n hx hb dL_law_584 rfl (lv_at hl 2 rfl) ?_
  refine lv_aload_n hx hb dL_law_585 rfl (lv_at hl 0 rfl) ?_
  refine lv_iload_n hx hb dL_law_586 rfl (lv_at hl 3 rfl) ?_
  refine lv_iconst (v := 1) hx hb dL_law_587 (by decide) ?_
  refine lv_iadd hx hb dL_law_588 ?_
  obtain ⟨x5, e, hf⟩ := ob hf
  refine q_sc e hx hb hX hbl hw dL_law_589 ?_
  refine lv_aload_n hx hb dL_law_590 rfl (lv_at hl 0 rfl) ?_
  refine lv_iload_n hx hb dL_law_591 rfl (lv_at hl 3 rfl) ?_
  refine lv_iconst (v := 2) hx hb dL_law_592 (by decide) ?_
  refine lv_iadd hx hb dL_law_593 ?_
  obtain ⟨x6, e, hf⟩ := ob hf
  refine q_sc e hx hb hX hbl hw dL_law_594 ?_
  obtain ⟨⟨x7, h8⟩, e, hf⟩ := ob hf
  refine q_callV (As := [.int x5, .int x6]) (rest := [.int x3]) (st1 := [.int x7, .int x3]) (c_X12_judge G e) B hw hM.hz hM.hc0 (k_X12_judge e) (by decide) (ci := 12) rfl rfl my_X12_judge mv_X12_judge tw_7_171 ⟨Nat.le_of_ble_eq_true rfl, Nat.le_of_ble_eq_true rfl⟩ hM.hcs rfl hl.1 rfl rfl (Nat.le_of_ble_eq_true rfl) dL_law_595 (fun H locs hw => ?_)
  refine lv_icmp_eq (tgt := 1395) hx hb dL_law_598 (by decide) (fun c9 => ?_) (fun c9 => ?_)
  · have hf := (if_pos c9).symm.trans hf
    obtain ⟨rfl, rfl⟩ := so2 hf
    exact hk _ _ _ hw hM (lv_sub hl [0, 1, 2, 3] rfl)
  · have hf := (if_neg c9).symm.trans hf
    refine lv_iconst (v := 0) hx hb dL_law_601 (by decide) ?_
    cases hf
def f_law_603 (n : Nat) (z0 : Sh) (L : Nat) (xs : Nat → Int32) (v1 v2 : Nat) (z : Sh) (h : Hp) (v3 : Int32) : Option (Hp × Sh) :=
  (sc L xs (v3 + 1)).bind fun x1 =>
  (f_X11_perform n z h v1 x1).bind fun (x2, h3) =>
  (sc L xs (v3 + 1)).bind fun x4 =>
  (f_X12_perform n z h3 v2 x4).bind fun (x5, h6) =>
  if x2 = x5 then
    some (h6, z)
  else
    none
set_option maxHeartbeats 4000000 in
theorem w_law_603 {p : Program} {l : Launch} {e : Env} {s : State} {m : MethodId} {below : List Frame} {meth : Method} {c : Code} {E : Ev} {b L : Nat} {xs : Nat → Int32} {n : Nat} {z0 : Sh} {v1 v2 : Nat} {z : Sh} {h : Hp} {v3 : Int32} {h9 : Hp} {z9 : Sh} {H : Heap} {locs : List Loc} {ls : Array Slot} (G : Gl s E) (B : Bd p s s E m c cL_law 4 RL) (hX : va_X b L xs s s.heap) (hbl : b < s.heap.size) (hw : Pw s s E z h H locs) (hM : Mo s s z0 z (zLim z0)) (hl : lv_has ls 4 [(0, .ref b), (1, .ref v1), (2, .ref v2), (3, .int v3)]) (hf : f_law_603 n z0 L xs v1 v2 z h v3 = some (h9, z9)) (hk : ∀ (H : Heap) (locs : List Loc) (ls : Array Slot), Pw s s E z9 h9 H locs → Mo s s z0 z9 (zLim z0) → lv_has ls 4 [(0, .ref b), (1, .ref v1), (2, .ref v2), (3, .int v3)] → W p l e (rmA 2048 84000 z0 (zLim z0)) s m #[Value.ref b] below meth c H locs (z9.sz - z0.sz) (z9.sl - z0.sl) (lw_Z below #[Value.ref b] s) (F0 m 1395 ls [])) : W p l e (rmA 2048 84000 z0 (zLim z0)) s m #[Value.ref b] below meth c H locs (z.sz - z0.sz) (z.sl - z0.sl) (lw_Z below #[Value.ref b] s) (F0 m 603 ls []) := by
  have hx := B.1
  have hb := B.2.1
  unfold f_law_603 at hf
  refine lv_aload_n hx hb dL_law_603 rfl (lv_at hl 1 rfl) ?_
  refine lv_aload_n hx hb dL_law_604 rfl (lv_at hl 0 rfl) ?_
  refine lv_iload_n hx hb dL_law_605 rfl (lv_at hl 3 rfl) ?_
  refine lv_iconst (v := 1) hx hb dL_law_606 (by decide) ?_
  refine lv_iadd hx hb dL_law_607 ?_
  obtain ⟨x1, e, hf⟩ := ob hf
  refine q_sc e hx hb hX hbl hw dL_law_608 ?_
  obtain ⟨⟨x2, h3⟩, e, hf⟩ := ob hf
  refine q_callV (As := [.int x1]) (rest := []) (st1 := [.int x2]) (c_X11_perform G e) B hw hM.hz hM.hc0 (k_X11_perform e) (by decide) (ci := 11) rfl rfl my_X11_perform mv_X11_perform tw_4_128 ⟨Nat.le_of_ble_eq_true rfl, Nat.le_of_ble_eq_true rfl⟩ hM.hcs rfl hl.1 rfl rfl (Nat.le_of_ble_eq_true rfl) dL_law_609 (fun H locs hw => ?_)
  refine lv_aload_n hx hb dL_law_612 rfl (lv_at hl 2 rfl) ?_
  refine lv_aload_n hx hb dL_law_613 rfl (lv_at hl 0 rfl) ?_
  refine lv_iload_n hx hb dL_law_614 rfl (lv_at hl 3 rfl) ?_
  refine lv_iconst (v := 1) hx hb dL_law_615 (by decide) ?_
  refine lv_iadd hx hb dL_law_616 ?_
  obtain ⟨x4, e, hf⟩ := ob hf
  refine q_sc e hx hb hX hbl hw dL_law_617 ?_
  obtain ⟨⟨x5, h6⟩, e, hf⟩ := ob hf
  refine q_callV (As := [.int x4]) (rest := [.int x2]) (st1 := [.int x5, .int x2]) (c_X12_perform G e) B hw hM.hz hM.hc0 (k_X12_perform e) (by decide) (ci := 12) rfl rfl my_X12_perform mv_X12_perform tw_7_211 ⟨Nat.le_of_ble_eq_true rfl, Nat.le_of_ble_eq_true rfl⟩ hM.hcs rfl hl.1 rfl rfl (Nat.le_of_ble_eq_true rfl) dL_law_618 (fun H locs hw => ?_)
  refine lv_icmp_eq (tgt := 1395) hx hb dL_law_621 (by decide) (fun c7 => ?_) (fun c7 => ?_)
  · have hf := (if_pos c7).symm.trans hf
    obtain ⟨rfl, rfl⟩ := so2 hf
    exact hk _ _ _ hw hM (lv_sub hl [0, 1, 2, 3] rfl)
  · have hf := (if_neg c7).symm.trans hf
    refine lv_iconst (v := 0) hx hb dL_law_624 (by decide) ?_
    cases hf
def f_law_626 (n : Nat) (z0 : Sh) (L : Nat) (xs : Nat → Int32) (v1 v2 : Nat) (z : Sh) (h : Hp) (v3 : Int32) : Option (Hp × Sh) :=
  (sc L xs (v3 + 1)).bind fun x1 =>
  (sc L xs (v3 + 2)).bind fun x2 =>
  (f_X11_season n z h v1 x1 x2).bind fun (x3, h4) =>
  (sc L xs (v3 + 1)).bind fun x5 =>
  (sc L xs (v3 + 2)).bind fun x6 =>
  (f_X12_season n z h4 v2 x5 x6).bind fun (x7, h8) =>
  if x3 = x7 then
    some (h8, z)
  else
    none
set_option maxHeartbeats 4000000 in
theorem w_law_626 {p : Program} {l : Launch} {e : Env} {s : State} {m : MethodId} {below : List Frame} {meth : Method} {c : Code} {E : Ev} {b L : Nat} {xs : Nat → Int32} {n : Nat} {z0 : Sh} {v1 v2 : Nat} {z : Sh} {h : Hp} {v3 : Int32} {h9 : Hp} {z9 : Sh} {H : Heap} {locs : List Loc} {ls : Array Slot} (G : Gl s E) (B : Bd p s s E m c cL_law 4 RL) (hX : va_X b L xs s s.heap) (hbl : b < s.heap.size) (hw : Pw s s E z h H locs) (hM : Mo s s z0 z (zLim z0)) (hl : lv_has ls 4 [(0, .ref b), (1, .ref v1), (2, .ref v2), (3, .int v3)]) (hf : f_law_626 n z0 L xs v1 v2 z h v3 = some (h9, z9)) (hk : ∀ (H : Heap) (locs : List Loc) (ls : Array Slot), Pw s s E z9 h9 H locs → Mo s s z0 z9 (zLim z0) → lv_has ls 4 [(0, .ref b), (1, .ref v1), (2, .ref v2), (3, .int v3)] → W p l e (rmA 2048 84000 z0 (zLim z0)) s m #[Value.ref b] below meth c H locs (z9.sz - z0.sz) (z9.sl - z0.sl) (lw_Z below #[Value.ref b] s) (F0 m 1395 ls [])) : W p l e (rmA 2048 84000 z0 (zLim z0)) s m #[Value.ref b] below meth c H locs (z.sz - z0.sz) (z.sl - z0.sl) (lw_Z below #[Value.ref b] s) (F0 m 626 ls []) := by
  have hx := B.1
  have hb := B.2.1
  unfold f_law_626 at hf
  refine lv_aload_n hx hb dL_law_626 rfl (lv_at hl 1 rfl) ?_
  refine lv_aload_n hx hb dL_law_627 rfl (lv_at hl 0 rfl) ?_
  refine lv_iload_n hx hb dL_law_628 rfl (lv_at hl 3 rfl) ?_
  refine lv_iconst (v := 1) hx hb dL_law_629 (by decide) ?_
  refine lv_iadd hx hb dL_law_630 ?_
  obtain ⟨x1, e, hf⟩ := ob hf
  refine q_sc e hx hb hX hbl hw dL_law_631 ?_
  refine lv_aload_n hx hb dL_law_632 rfl (lv_at hl 0 rfl) ?_
  refine lv_iload_n hx hb dL_law_633 rfl (lv_at hl 3 rfl) ?_
  refine lv_iconst (v := 2) hx hb dL_law_634 (by decide) ?_
  refine lv_iadd hx hb dL_law_635 ?_
  obtain ⟨x2, e, hf⟩ := ob hf
  refine q_sc e hx hb hX hbl hw dL_law_636 ?_
  obtain ⟨⟨x3, h4⟩, e, hf⟩ := ob hf
  refine q_callV (As := [.int x1, .int x2]) (rest := []) (st1 := [.int x3]) (c_X11_season G e) B hw hM.hz hM.hc0 (k_X11_season e) (by decide) (ci := 11) rfl rfl my_X11_season mv_X11_season tw_4_132 ⟨Nat.le_of_ble_eq_true rfl, Nat.le_of_ble_eq_true rfl⟩ hM.hcs rfl hl.1 rfl rfl (Nat.le_of_ble_eq_true rfl) dL_law_637 (fun H locs hw => ?_)
  refine lv_aload_n hx hb dL_law_640 rfl (lv_at hl 2 rfl) ?_
  refine lv_aload_n hx hb dL_law_641 rfl (lv_at hl 0 rfl) ?_
  refine lv_iload_n hx hb dL_law_642 rfl (lv_at hl 3 rfl) ?_
  refine lv_iconst (v := 1) hx hb dL_law_643 (by decide) ?_
  refine lv_iadd hx hb dL_law_644 ?_
  obtain ⟨x5, e, hf⟩ := ob hf
  refine q_sc e hx hb hX hbl hw dL_law_645 ?_
  refine lv_aload_n hx hb dL_law_646 rfl (lv_at hl 0 rfl) ?_
  refine lv_iload_n hx hb dL_law_647 rfl (lv_at hl 3 rfl) ?_
  refine lv_iconst (v := 2) hx hb dL_law_648 (by decide) ?_
  refine lv_iadd hx hb dL_law_649 ?_
  obtain ⟨x6, e, hf⟩ := ob hf
  refine q_sc e hx hb hX hbl hw dL_law_650 ?_
  obtain ⟨⟨x7, h8⟩, e, hf⟩ := ob hf
  refine q_callV (As := [.int x5, .int x6]) (rest := [.int x3]) (st1 := [.int x7, .int x3]) (c_X12_season G e) B hw hM.hz hM.hc0 (k_X12_season e) (by decide) (ci := 12) rfl rfl my_X12_season mv_X12_season tw_7_215 ⟨Nat.le_of_ble_eq_true rfl, Nat.le_of_ble_eq_true rfl⟩ hM.hcs rfl hl.1 rfl rfl (Nat.le_of_ble_eq_true rfl) dL_law_651 (fun H locs hw => ?_)
  refine lv_icmp_eq (tgt := 1395) hx hb dL_law_654 (by decide) (fun c9 => ?_) (fun c9 => ?_)
  · have hf := (if_pos c9).symm.trans hf
    obtain ⟨rfl, rfl⟩ := so2 hf
    exact hk _ _ _ hw hM (lv_sub hl [0, 1, 2, 3] rfl)
  · have hf := (if_neg c9).symm.trans hf
    refine lv_iconst (v := 0) hx hb dL_law_657 (by decide) ?_
    cases hf
def f_law_659 (n : Nat) (z0 : Sh) (L : Nat) (xs : Nat → Int32) (v1 v2 : Nat) (z : Sh) (h : Hp) (v3 : Int32) : Option (Hp × Sh) :=
  (sc L xs (v3 + 1)).bind fun x1 =>
  (f_X11_best n z h v1 x1).bind fun (x2, h3, z4) =>
  gdL z0 z4 <|
  (sc L xs (v3 + 1)).bind fun x5 =>
  (f_X12_best n z4 h3 v2 x5).bind fun (x6, h7) =>
  if x2 = x6 then
    some (h7, z4)
  else
    none
set_option maxHeartbeats 4000000 in
theorem w_law_659 {p : Program} {l : Launch} {e : Env} {s : State} {m : MethodId} {below : List Frame} {meth : Method} {c : Code} {E : Ev} {b L : Nat} {xs : Nat → Int32} {n : Nat} {z0 : Sh} {v1 v2 : Nat} {z : Sh} {h : Hp} {v3 : Int32} {h9 : Hp} {z9 : Sh} {H : Heap} {locs : List Loc} {ls : Array Slot} (G : Gl s E) (B : Bd p s s E m c cL_law 4 RL) (hX : va_X b L xs s s.heap) (hbl : b < s.heap.size) (hw : Pw s s E z h H locs) (hM : Mo s s z0 z (zLim z0)) (hl : lv_has ls 4 [(0, .ref b), (1, .ref v1), (2, .ref v2), (3, .int v3)]) (hf : f_law_659 n z0 L xs v1 v2 z h v3 = some (h9, z9)) (hk : ∀ (H : Heap) (locs : List Loc) (ls : Array Slot), Pw s s E z9 h9 H locs → Mo s s z0 z9 (zLim z0) → lv_has ls 4 [(0, .ref b), (1, .ref v1), (2, .ref v2), (3, .int v3)] → W p l e (rmA 2048 84000 z0 (zLim z0)) s m #[Value.ref b] below meth c H locs (z9.sz - z0.sz) (z9.sl - z0.sl) (lw_Z below #[Value.ref b] s) (F0 m 1395 ls [])) : W p l e (rmA 2048 84000 z0 (zLim z0)) s m #[Value.ref b] below meth c H locs (z.sz - z0.sz) (z.sl - z0.sl) (lw_Z below #[Value.ref b] s) (F0 m 659 ls []) := by
  have hx := B.1
  have hb := B.2.1
  unfold f_law_659 at hf
  refine lv_aload_n hx hb dL_law_659 rfl (lv_at hl 1 rfl) ?_
  refine lv_aload_n hx hb dL_law_660 rfl (lv_at hl 0 rfl) ?_
  refine lv_iload_n hx hb dL_law_661 rfl (lv_at hl 3 rfl) ?_
  refine lv_iconst (v := 1) hx hb dL_law_662 (by decide) ?_
  refine lv_iadd hx hb dL_law_663 ?_
  obtain ⟨x1, e, hf⟩ := ob hf
  refine q_sc e hx hb hX hbl hw dL_law_664 ?_
  obtain ⟨⟨x2, h3, z4⟩, e, hf⟩ := ob hf
  obtain ⟨hg, hf⟩ := gdL_some hf
  refine q_callVA (As := [.int x1]) (rest := []) (st1 := [.int x2]) (c_X11_best G e) (mo_X11_best e) hg B hw hM (k_X11_best e) (by decide) (ci := 11) rfl rfl my_X11_best mv_X11_best tw_4_149 ⟨Nat.le_of_ble_eq_true rfl, Nat.le_of_ble_eq_true rfl⟩ rfl hl.1 rfl rfl (Nat.le_of_ble_eq_true rfl) dL_law_665 (fun H locs hw hM => ?_)
  refine lv_aload_n hx hb dL_law_668 rfl (lv_at hl 2 rfl) ?_
  refine lv_aload_n hx hb dL_law_669 rfl (lv_at hl 0 rfl) ?_
  refine lv_iload_n hx hb dL_law_670 rfl (lv_at hl 3 rfl) ?_
  refine lv_iconst (v := 1) hx hb dL_law_671 (by decide) ?_
  refine lv_iadd hx hb dL_law_672 ?_
  obtain ⟨x5, e, hf⟩ := ob hf
  refine q_sc e hx hb hX hbl hw dL_law_673 ?_
  obtain ⟨⟨x6, h7⟩, e, hf⟩ := ob hf
  refine q_callV (As := [.int x5]) (rest := [.int x2]) (st1 := [.int x6, .int x2]) (c_X12_best G e) B hw hM.hz hM.hc0 (k_X12_best e) (by decide) (ci := 12) rfl rfl my_X12_best mv_X12_best tw_7_229 ⟨Nat.le_of_ble_eq_true rfl, Nat.le_of_ble_eq_true rfl⟩ hM.hcs rfl hl.1 rfl rfl (Nat.le_of_ble_eq_true rfl) dL_law_674 (fun H locs hw => ?_)
  refine lv_icmp_eq (tgt := 1395) hx hb dL_law_677 (by decide) (fun c8 => ?_) (fun c8 => ?_)
  · have hf := (if_pos c8).symm.trans hf
    obtain ⟨rfl, rfl⟩ := so2 hf
    exact hk _ _ _ hw hM (lv_sub hl [0, 1, 2, 3] rfl)
  · have hf := (if_neg c8).symm.trans hf
    refine lv_iconst (v := 0) hx hb dL_law_680 (by decide) ?_
    cases hf
def f_law_682 (n : Nat) (z0 : Sh) (L : Nat) (xs : Nat → Int32) (v1 v2 : Nat) (z : Sh) (h : Hp) (v3 : Int32) : Option (Hp × Sh) :=
  (sc L xs (v3 + 1)).bind fun x1 =>
  (sc L xs (v3 + 2)).bind fun x2 =>
  (f_X11_course n z h v1 x1 x2).bind fun (x3, h4, z5) =>
  gdL z0 z5 <|
  (sc L xs (v3 + 1)).bind fun x6 =>
  (sc L xs (v3 + 2)).bind fun x7 =>
  (f_X12_course n z5 h4 v2 x6 x7).bind fun (x8, h9) =>
  if x3 = x8 then
    some (h9, z5)
  else
    none
set_option maxHeartbeats 4000000 in
theorem w_law_682 {p : Program} {l : Launch} {e : Env} {s : State} {m : MethodId} {below : List Frame} {meth : Method} {c : Code} {E : Ev} {b L : Nat} {xs : Nat → Int32} {n : Nat} {z0 : Sh} {v1 v2 : Nat} {z : Sh} {h : Hp} {v3 : Int32} {h9 : Hp} {z9 : Sh} {H : Heap} {locs : List Loc} {ls : Array Slot} (G : Gl s E) (B : Bd p s s E m c cL_law 4 RL) (hX : va_X b L xs s s.heap) (hbl : b < s.heap.size) (hw : Pw s s E z h H locs) (hM : Mo s s z0 z (zLim z0)) (hl : lv_has ls 4 [(0, .ref b), (1, .ref v1), (2, .ref v2), (3, .int v3)]) (hf : f_law_682 n z0 L xs v1 v2 z h v3 = some (h9, z9)) (hk : ∀ (H : Heap) (locs : List Loc) (ls : Array Slot), Pw s s E z9 h9 H locs → Mo s s z0 z9 (zLim z0) → lv_has ls 4 [(0, .ref b), (1, .ref v1), (2, .ref v2), (3, .int v3)] → W p l e (rmA 2048 84000 z0 (zLim z0)) s m #[Value.ref b] below meth c H locs (z9.sz - z0.sz) (z9.sl - z0.sl) (lw_Z below #[Value.ref b] s) (F0 m 1395 ls [])) : W p l e (rmA 2048 84000 z0 (zLim z0)) s m #[Value.ref b] below meth c H locs (z.sz - z0.sz) (z.sl - z0.sl) (lw_Z below #[Value.ref b] s) (F0 m 682 ls []) := by
  have hx := B.1
  have hb := B.2.1
  unfold f_law_682 at hf
  refine lv_aload_n hx hb dL_law_682 rfl (lv_at hl 1 rfl) ?_
  refine lv_aload_n hx hb dL_law_683 rfl (lv_at hl 0 rfl) ?_
  refine lv_iload_n hx hb dL_law_684 rfl (lv_at hl 3 rfl) ?_
  refine lv_iconst (v := 1) hx hb dL_law_685 (by decide) ?_
  refine lv_iadd hx hb dL_law_686 ?_
  obtain ⟨x1, e, hf⟩ := ob hf
  refine q_sc e hx hb hX hbl hw dL_law_687 ?_
  refine lv_aload_n hx hb dL_law_688 rfl (lv_at hl 0 rfl) ?_
  refine lv_iload_n hx hb dL_law_689 rfl (lv_at hl 3 rfl) ?_
  refine lv_iconst (v := 2) hx hb dL_law_690 (by decide) ?_
  refine lv_iadd hx hb dL_law_691 ?_
  obtain ⟨x2, e, hf⟩ := ob hf
  refine q_sc e hx hb hX hbl hw dL_law_692 ?_
  obtain ⟨⟨x3, h4, z5⟩, e, hf⟩ := ob hf
  obtain ⟨hg, hf⟩ := gdL_some hf
  refine q_callVA (As := [.int x1, .int x2]) (rest := []) (st1 := [.int x3]) (c_X11_course G e) (mo_X11_course e) hg B hw hM (k_X11_course e) (by decide) (ci := 11) rfl rfl my_X11_course mv_X11_course tw_4_228 ⟨Nat.le_of_ble_eq_true rfl, Nat.le_of_ble_eq_true rfl⟩ rfl hl.1 rfl rfl (Nat.le_of_ble_eq_true rfl) dL_law_693 (fun H locs hw hM => ?_)
  refine lv_aload_n hx hb dL_law_696 rfl (lv_at hl 2 rfl) ?_
  refine lv_aload_n hx hb dL_law_697 rfl (lv_at hl 0 rfl) ?_
  refine lv_iload_n hx hb dL_law_698 rfl (lv_at hl 3 rfl) ?_
  refine lv_iconst (v := 1) hx hb dL_law_699 (by decide) ?_
  refine lv_iadd hx hb dL_law_700 ?_
  obtain ⟨x6, e, hf⟩ := ob hf
  refine q_sc e hx hb hX hbl hw dL_law_701 ?_
  refine lv_aload_n hx hb dL_law_702 rfl (lv_at hl 0 rfl) ?_
  refine lv_iload_n hx hb dL_law_703 rfl (lv_at hl 3 rfl) ?_
  refine lv_iconst (v := 2) hx hb dL_law_704 (by decide) ?_
  refine lv_iadd hx hb dL_law_705 ?_
  obtain ⟨x7, e, hf⟩ := ob hf
  refine q_sc e hx hb hX hbl hw dL_law_706 ?_
  obtain ⟨⟨x8, h9⟩, e, hf⟩ := ob hf
  refine q_callV (As := [.int x6, .int x7]) (rest := [.int x3]) (st1 := [.int x8, .int x3]) (c_X12_course G e) B hw hM.hz hM.hc0 (k_X12_course e) (by decide) (ci := 12) rfl rfl my_X12_course mv_X12_course tw_8_5 ⟨Nat.le_of_ble_eq_true rfl, Nat.le_of_ble_eq_true rfl⟩ hM.hcs rfl hl.1 rfl rfl (Nat.le_of_ble_eq_true rfl) dL_law_707 (fun H locs hw => ?_)
  refine lv_icmp_eq (tgt := 1395) hx hb dL_law_710 (by decide) (fun c10 => ?_) (fun c10 => ?_)
  · have hf := (if_pos c10).symm.trans hf
    obtain ⟨rfl, rfl⟩ := so2 hf
    exact hk _ _ _ hw hM (lv_sub hl [0, 1, 2, 3] rfl)
  · have hf := (if_neg c10).symm.trans hf
    refine lv_iconst (v := 0) hx hb dL_law_713 (by decide) ?_
    cases hf
def f_law_715 (n : Nat) (z0 : Sh) (L : Nat) (xs : Nat → Int32) (v1 v2 : Nat) (z : Sh) (h : Hp) (v3 : Int32) : Option (Hp × Sh) :=
  (sc L xs (v3 + 1)).bind fun x1 =>
  (f_X11_drawsAt n z h v1 x1).bind fun (x2, h3, z4) =>
  gdL z0 z4 <|
  (sc L xs (v3 + 1)).bind fun x5 =>
  (f_X12_drawsAt n z4 h3 v2 x5).bind fun (x6, h7) =>
  if x2 = x6 then
    some (h7, z4)
  else
    none
set_option maxHeartbeats 4000000 in
theorem w_law_715 {p : Program} {l : Launch} {e : Env} {s : State} {m : MethodId} {below : List Frame} {meth : Method} {c : Code} {E : Ev} {b L : Nat} {xs : Nat → Int32} {n : Nat} {z0 : Sh} {v1 v2 : Nat} {z : Sh} {h : Hp} {v3 : Int32} {h9 : Hp} {z9 : Sh} {H : Heap} {locs : List Loc} {ls : Array Slot} (G : Gl s E) (B : Bd p s s E m c cL_law 4 RL) (hX : va_X b L xs s s.heap) (hbl : b < s.heap.size) (hw : Pw s s E z h H locs) (hM : Mo s s z0 z (zLim z0)) (hl : lv_has ls 4 [(0, .ref b), (1, .ref v1), (2, .ref v2), (3, .int v3)]) (hf : f_law_715 n z0 L xs v1 v2 z h v3 = some (h9, z9)) (hk : ∀ (H : Heap) (locs : List Loc) (ls : Array Slot), Pw s s E z9 h9 H locs → Mo s s z0 z9 (zLim z0) → lv_has ls 4 [(0, .ref b), (1, .ref v1), (2, .ref v2), (3, .int v3)] → W p l e (rmA 2048 84000 z0 (zLim z0)) s m #[Value.ref b] below meth c H locs (z9.sz - z0.sz) (z9.sl - z0.sl) (lw_Z below #[Value.ref b] s) (F0 m 1395 ls [])) : W p l e (rmA 2048 84000 z0 (zLim z0)) s m #[Value.ref b] below meth c H locs (z.sz - z0.sz) (z.sl - z0.sl) (lw_Z below #[Value.ref b] s) (F0 m 715 ls []) := by
  have hx := B.1
  have hb := B.2.1
  unfold f_law_715 at hf
  refine lv_aload_n hx hb dL_law_715 rfl (lv_at hl 1 rfl) ?_
  refine lv_aload_n hx hb dL_law_716 rfl (lv_at hl 0 rfl) ?_
  refine lv_iload_n hx hb dL_law_717 rfl (lv_at hl 3 rfl) ?_
  refine lv_iconst (v := 1) hx hb dL_law_718 (by decide) ?_
  refine lv_iadd hx hb dL_law_719 ?_
  obtain ⟨x1, e, hf⟩ := ob hf
  refine q_sc e hx hb hX hbl hw dL_law_720 ?_
  obtain ⟨⟨x2, h3, z4⟩, e, hf⟩ := ob hf
  obtain ⟨hg, hf⟩ := gdL_some hf
  refine q_callVA (As := [.int x1]) (rest := []) (st1 := [.int x2]) (c_X11_drawsAt G e) (mo_X11_drawsAt e) hg B hw hM (k_X11_drawsAt e) (by decide) (ci := 11) rfl rfl my_X11_drawsAt mv_X11_drawsAt tw_5_3 ⟨Nat.le_of_ble_eq_true rfl, Nat.le_of_ble_eq_true rfl⟩ rfl hl.1 rfl rfl (Nat.le_of_ble_eq_true rfl) dL_law_721 (fun H locs hw hM => ?_)
  refine lv_aload_n hx hb dL_law_724 rfl (lv_at hl 2 rfl) ?_
  refine lv_aload_n hx hb dL_law_725 rfl (lv_at hl 0 rfl) ?_
  refine lv_iload_n hx hb dL_law_726 rfl (lv_at hl 3 rfl) ?_
  refine lv_iconst (v := 1) hx hb dL_law_727 (by decide) ?_
  refine lv_iadd hx hb dL_law_728 ?_
  obtain ⟨x5, e, hf⟩ := ob hf
  refine q_sc e hx hb hX hbl hw dL_law_729 ?_
  obtain ⟨⟨x6, h7⟩, e, hf⟩ := ob hf
  refine q_callV (As := [.int x5]) (rest := [.int x2]) (st1 := [.int x6, .int x2]) (c_X12_drawsAt G e) B hw hM.hz hM.hc0 (k_X12_drawsAt e) (by decide) (ci := 12) rfl rfl my_X12_drawsAt mv_X12_drawsAt tw_8_21 ⟨Nat.le_of_ble_eq_true rfl, Nat.le_of_ble_eq_true rfl⟩ hM.hcs rfl hl.1 rfl rfl (Nat.le_of_ble_eq_true rfl) dL_law_730 (fun H locs hw => ?_)
  refine lv_icmp_eq (tgt := 1395) hx hb dL_law_733 (by decide) (fun c8 => ?_) (fun c8 => ?_)
  · have hf := (if_pos c8).symm.trans hf
    obtain ⟨rfl, rfl⟩ := so2 hf
    exact hk _ _ _ hw hM (lv_sub hl [0, 1, 2, 3] rfl)
  · have hf := (if_neg c8).symm.trans hf
    refine lv_iconst (v := 0) hx hb dL_law_736 (by decide) ?_
    cases hf
def f_law_738 (n : Nat) (z0 : Sh) (L : Nat) (xs : Nat → Int32) (v1 v2 : Nat) (z : Sh) (h : Hp) (v3 : Int32) : Option (Hp × Sh) :=
  (sc L xs (v3 + 1)).bind fun x1 =>
  (f_X11_courses n z h v1 x1).bind fun (x2, h3) =>
  (sc L xs (v3 + 1)).bind fun x4 =>
  (f_X12_courses n z h3 v2 x4).bind fun (x5, h6) =>
  if (lg_cmp x2 x5) = 0 then
    some (h6, z)
  else
    none
set_option maxHeartbeats 4000000 in
theorem w_law_738 {p : Program} {l : Launch} {e : Env} {s : State} {m : MethodId} {below : List Frame} {meth : Method} {c : Code} {E : Ev} {b L : Nat} {xs : Nat → Int32} {n : Nat} {z0 : Sh} {v1 v2 : Nat} {z : Sh} {h : Hp} {v3 : Int32} {h9 : Hp} {z9 : Sh} {H : Heap} {locs : List Loc} {ls : Array Slot} (G : Gl s E) (B : Bd p s s E m c cL_law 4 RL) (hX : va_X b L xs s s.heap) (hbl : b < s.heap.size) (hw : Pw s s E z h H locs) (hM : Mo s s z0 z (zLim z0)) (hl : lv_has ls 4 [(0, .ref b), (1, .ref v1), (2, .ref v2), (3, .int v3)]) (hf : f_law_738 n z0 L xs v1 v2 z h v3 = some (h9, z9)) (hk : ∀ (H : Heap) (locs : List Loc) (ls : Array Slot), Pw s s E z9 h9 H locs → Mo s s z0 z9 (zLim z0) → lv_has ls 4 [(0, .ref b), (1, .ref v1), (2, .ref v2), (3, .int v3)] → W p l e (rmA 2048 84000 z0 (zLim z0)) s m #[Value.ref b] below meth c H locs (z9.sz - z0.sz) (z9.sl - z0.sl) (lw_Z below #[Value.ref b] s) (F0 m 1395 ls [])) : W p l e (rmA 2048 84000 z0 (zLim z0)) s m #[Value.ref b] below meth c H locs (z.sz - z0.sz) (z.sl - z0.sl) (lw_Z below #[Value.ref b] s) (F0 m 738 ls []) := by
  have hx := B.1
  have hb := B.2.1
  unfold f_law_738 at hf
  refine lv_aload_n hx hb dL_law_738 rfl (lv_at hl 1 rfl) ?_
  refine lv_aload_n hx hb dL_law_739 rfl (lv_at hl 0 rfl) ?_
  refine lv_iload_n hx hb dL_law_740 rfl (lv_at hl 3 rfl) ?_
  refine lv_iconst (v := 1) hx hb dL_law_741 (by decide) ?_
  refine lv_iadd hx hb dL_law_742 ?_
  obtain ⟨x1, e, hf⟩ := ob hf
  refine q_sc e hx hb hX hbl hw dL_law_743 ?_
  obtain ⟨⟨x2, h3⟩, e, hf⟩ := ob hf
  refine q_callV (As := [.int x1]) (rest := []) (st1 := [.long x2]) (c_X11_courses G e) B hw hM.hz hM.hc0 (k_X11_courses e) (by decide) (ci := 11) rfl rfl my_X11_courses mv_X11_courses tw_5_12 ⟨Nat.le_of_ble_eq_true rfl, Nat.le_of_ble_eq_true rfl⟩ hM.hcs rfl hl.1 rfl rfl (Nat.le_of_ble_eq_true rfl) dL_law_744 (fun H locs hw => ?_)
  refine lv_aload_n hx hb dL_law_747 rfl (lv_at hl 2 rfl) ?_
  refine lv_aload_n hx hb dL_law_748 rfl (lv_at hl 0 rfl) ?_
  refine lv_iload_n hx hb dL_law_749 rfl (lv_at hl 3 rfl) ?_
  refine lv_iconst (v := 1) hx hb dL_law_750 (by decide) ?_
  refine lv_iadd hx hb dL_law_751 ?_
  obtain ⟨x4, e, hf⟩ := ob hf
  refine q_sc e hx hb hX hbl hw dL_law_752 ?_
  obtain ⟨⟨x5, h6⟩, e, hf⟩ := ob hf
  refine q_callV (As := [.int x4]) (rest := [.long x2]) (st1 := [.long x5, .long x2]) (c_X12_courses G e) B hw hM.hz hM.hc0 (k_X12_courses e) (by decide) (ci := 12) rfl rfl my_X12_courses mv_X12_courses tw_8_25 ⟨Nat.le_of_ble_eq_true rfl, Nat.le_of_ble_eq_true rfl⟩ hM.hcs rfl hl.1 rfl rfl (Nat.le_of_ble_eq_true rfl) dL_law_753 (fun H locs hw => ?_)
  refine W.lcmp hx hb dL_law_756 ?_
  refine lv_if_eq (tgt := 1395) hx hb dL_law_757 (by decide) (fun c7 => ?_) (fun c7 => ?_)
  · have hf := (if_pos c7).symm.trans hf
    obtain ⟨rfl, rfl⟩ := so2 hf
    exact hk _ _ _ hw hM (lv_sub hl [0, 1, 2, 3] rfl)
  · have hf := (if_neg c7).symm.trans hf
    refine lv_iconst (v := 0) hx hb dL_law_760 (by decide) ?_
    cases hf
def f_law_762 (n : Nat) (z0 : Sh) (L : Nat) (xs : Nat → Int32) (v1 v2 : Nat) (z : Sh) (h : Hp) (v3 : Int32) : Option (Hp × Sh) :=
  (sc L xs (v3 + 1)).bind fun x1 =>
  (sc L xs (v3 + 2)).bind fun x2 =>
  (f_X11_soonest n z h v1 x1 x2).bind fun (x3, h4, z5) =>
  gdL z0 z5 <|
  (sc L xs (v3 + 1)).bind fun x6 =>
  (sc L xs (v3 + 2)).bind fun x7 =>
  (f_X12_soonest n z5 h4 v2 x6 x7).bind fun (x8, h9) =>
  if x3 = x8 then
    some (h9, z5)
  else
    none
set_option maxHeartbeats 4000000 in
theorem w_law_762 {p : Program} {l : Launch} {e : Env} {s : State} {m : MethodId} {below : List Frame} {meth : Method} {c : Code} {E : Ev} {b L : Nat} {xs : Nat → Int32} {n : Nat} {z0 : Sh} {v1 v2 : Nat} {z : Sh} {h : Hp} {v3 : Int32} {h9 : Hp} {z9 : Sh} {H : Heap} {locs : List Loc} {ls : Array Slot} (G : Gl s E) (B : Bd p s s E m c cL_law 4 RL) (hX : va_X b L xs s s.heap) (hbl : b < s.heap.size) (hw : Pw s s E z h H locs) (hM : Mo s s z0 z (zLim z0)) (hl : lv_has ls 4 [(0, .ref b), (1, .ref v1), (2, .ref v2), (3, .int v3)]) (hf : f_law_762 n z0 L xs v1 v2 z h v3 = some (h9, z9)) (hk : ∀ (H : Heap) (locs : List Loc) (ls : Array Slot), Pw s s E z9 h9 H locs → Mo s s z0 z9 (zLim z0) → lv_has ls 4 [(0, .ref b), (1, .ref v1), (2, .ref v2), (3, .int v3)] → W p l e (rmA 2048 84000 z0 (zLim z0)) s m #[Value.ref b] below meth c H locs (z9.sz - z0.sz) (z9.sl - z0.sl) (lw_Z below #[Value.ref b] s) (F0 m 1395 ls [])) : W p l e (rmA 2048 84000 z0 (zLim z0)) s m #[Value.ref b] below meth c H locs (z.sz - z0.sz) (z.sl - z0.sl) (lw_Z below #[Value.ref b] s) (F0 m 762 ls []) := by
  have hx := B.1
  have hb := B.2.1
  unfold f_law_762 at hf
  refine lv_aload_n hx hb dL_law_762 rfl (lv_at hl 1 rfl) ?_
  refine lv_aload_n hx hb dL_law_763 rfl (lv_at hl 0 rfl) ?_
  refine lv_iload_n hx hb dL_law_764 rfl (lv_at hl 3 rfl) ?_
  refine lv_iconst (v := 1) hx hb dL_law_765 (by decide) ?_
  refine lv_iadd hx hb dL_law_766 ?_
  obtain ⟨x1, e, hf⟩ := ob hf
  refine q_sc e hx hb hX hbl hw dL_law_767 ?_
  refine lv_aload_n hx hb dL_law_768 rfl (lv_at hl 0 rfl) ?_
  refine lv_iload_n hx hb dL_law_769 rfl (lv_at hl 3 rfl) ?_
  refine lv_iconst (v := 2) hx hb dL_law_770 (by decide) ?_
  refine lv_iadd hx hb dL_law_771 ?_
  obtain ⟨x2, e, hf⟩ := ob hf
  refine q_sc e hx hb hX hbl hw dL_law_772 ?_
  obtain ⟨⟨x3, h4, z5⟩, e, hf⟩ := ob hf
  obtain ⟨hg, hf⟩ := gdL_some hf
  refine q_callVA (As := [.int x1, .int x2]) (rest := []) (st1 := [.int x3]) (c_X11_soonest G e) (mo_X11_soonest e) hg B hw hM (k_X11_soonest e) (by decide) (ci := 11) rfl rfl my_X11_soonest mv_X11_soonest tw_5_26 ⟨Nat.le_of_ble_eq_true rfl, Nat.le_of_ble_eq_true rfl⟩ rfl hl.1 rfl rfl (Nat.le_of_ble_eq_true rfl) dL_law_773 (fun H locs hw hM => ?_)
  refine lv_aload_n hx hb dL_law_776 rfl (lv_at hl 2 rfl) ?_
  refine lv_aload_n hx hb dL_law_777 rfl (lv_at hl 0 rfl) ?_
  refine lv_iload_n hx hb dL_law_778 rfl (lv_at hl 3 rfl) ?_
  refine lv_iconst (v := 1) hx hb dL_law_779 (by decide) ?_
  refine lv_iadd hx hb dL_law_780 ?_
  obtain ⟨x6, e, hf⟩ := ob hf
  refine q_sc e hx hb hX hbl hw dL_law_781 ?_
  refine lv_aload_n hx hb dL_law_782 rfl (lv_at hl 0 rfl) ?_
  refine lv_iload_n hx hb dL_law_783 rfl (lv_at hl 3 rfl) ?_
  refine lv_iconst (v := 2) hx hb dL_law_784 (by decide) ?_
  refine lv_iadd hx hb dL_law_785 ?_
  obtain ⟨x7, e, hf⟩ := ob hf
  refine q_sc e hx hb hX hbl hw dL_law_786 ?_
  obtain ⟨⟨x8, h9⟩, e, hf⟩ := ob hf
  refine q_callV (As := [.int x6, .int x7]) (rest := [.int x3]) (st1 := [.int x8, .int x3]) (c_X12_soonest G e) B hw hM.hz hM.hc0 (k_X12_soonest e) (by decide) (ci := 12) rfl rfl my_X12_soonest mv_X12_soonest tw_8_34 ⟨Nat.le_of_ble_eq_true rfl, Nat.le_of_ble_eq_true rfl⟩ hM.hcs rfl hl.1 rfl rfl (Nat.le_of_ble_eq_true rfl) dL_law_787 (fun H locs hw => ?_)
  refine lv_icmp_eq (tgt := 1395) hx hb dL_law_790 (by decide) (fun c10 => ?_) (fun c10 => ?_)
  · have hf := (if_pos c10).symm.trans hf
    obtain ⟨rfl, rfl⟩ := so2 hf
    exact hk _ _ _ hw hM (lv_sub hl [0, 1, 2, 3] rfl)
  · have hf := (if_neg c10).symm.trans hf
    refine lv_iconst (v := 0) hx hb dL_law_793 (by decide) ?_
    cases hf
def f_law_795 (n : Nat) (z0 : Sh) (L : Nat) (xs : Nat → Int32) (v1 v2 : Nat) (z : Sh) (h : Hp) (v3 : Int32) : Option (Hp × Sh) :=
  (sc L xs (v3 + 1)).bind fun x1 =>
  (sc L xs (v3 + 2)).bind fun x2 =>
  (f_X11_mean n z h v1 x1 x2).bind fun (x3, h4, z5) =>
  gdL z0 z5 <|
  (sc L xs (v3 + 1)).bind fun x6 =>
  (sc L xs (v3 + 2)).bind fun x7 =>
  (f_X12_mean n z5 h4 v2 x6 x7).bind fun (x8, h9) =>
  if (lg_cmp x3 x8) = 0 then
    some (h9, z5)
  else
    none
set_option maxHeartbeats 4000000 in
theorem w_law_795 {p : Program} {l : Launch} {e : Env} {s : State} {m : MethodId} {below : List Frame} {meth : Method} {c : Code} {E : Ev} {b L : Nat} {xs : Nat → Int32} {n : Nat} {z0 : Sh} {v1 v2 : Nat} {z : Sh} {h : Hp} {v3 : Int32} {h9 : Hp} {z9 : Sh} {H : Heap} {locs : List Loc} {ls : Array Slot} (G : Gl s E) (B : Bd p s s E m c cL_law 4 RL) (hX : va_X b L xs s s.heap) (hbl : b < s.heap.size) (hw : Pw s s E z h H locs) (hM : Mo s s z0 z (zLim z0)) (hl : lv_has ls 4 [(0, .ref b), (1, .ref v1), (2, .ref v2), (3, .int v3)]) (hf : f_law_795 n z0 L xs v1 v2 z h v3 = some (h9, z9)) (hk : ∀ (H : Heap) (locs : List Loc) (ls : Array Slot), Pw s s E z9 h9 H locs → Mo s s z0 z9 (zLim z0) → lv_has ls 4 [(0, .ref b), (1, .ref v1), (2, .ref v2), (3, .int v3)] → W p l e (rmA 2048 84000 z0 (zLim z0)) s m #[Value.ref b] below meth c H locs (z9.sz - z0.sz) (z9.sl - z0.sl) (lw_Z below #[Value.ref b] s) (F0 m 1395 ls [])) : W p l e (rmA 2048 84000 z0 (zLim z0)) s m #[Value.ref b] below meth c H locs (z.sz - z0.sz) (z.sl - z0.sl) (lw_Z below #[Value.ref b] s) (F0 m 795 ls []) := by
  have hx := B.1
  have hb := B.2.1
  unfold f_law_795 at hf
  refine lv_aload_n hx hb dL_law_795 rfl (lv_at hl 1 rfl) ?_
  refine lv_aload_n hx hb dL_law_796 rfl (lv_at hl 0 rfl) ?_
  refine lv_iload_n hx hb dL_law_797 rfl (lv_at hl 3 rfl) ?_
  refine lv_iconst (v := 1) hx hb dL_law_798 (by decide) ?_
  refine lv_iadd hx hb dL_law_799 ?_
  obtain ⟨x1, e, hf⟩ := ob hf
  refine q_sc e hx hb hX hbl hw dL_law_800 ?_
  refine lv_aload_n hx hb dL_law_801 rfl (lv_at hl 0 rfl) ?_
  refine lv_iload_n hx hb dL_law_802 rfl (lv_at hl 3 rfl) ?_
  refine lv_iconst (v := 2) hx hb dL_law_803 (by decide) ?_
  refine lv_iadd hx hb dL_law_804 ?_
  obtain ⟨x2, e, hf⟩ := ob hf
  refine q_sc e hx hb hX hbl hw dL_law_805 ?_
  obtain ⟨⟨x3, h4, z5⟩, e, hf⟩ := ob hf
  obtain ⟨hg, hf⟩ := gdL_some hf
  refine q_callVA (As := [.int x1, .int x2]) (rest := []) (st1 := [.long x3]) (c_X11_mean G e) (mo_X11_mean e) hg B hw hM (k_X11_mean e) (by decide) (ci := 11) rfl rfl my_X11_mean mv_X11_mean tw_5_42 ⟨Nat.le_of_ble_eq_true rfl, Nat.le_of_ble_eq_true rfl⟩ rfl hl.1 rfl rfl (Nat.le_of_ble_eq_true rfl) dL_law_806 (fun H locs hw hM => ?_)
  refine lv_aload_n hx hb dL_law_809 rfl (lv_at hl 2 rfl) ?_
  refine lv_aload_n hx hb dL_law_810 rfl (lv_at hl 0 rfl) ?_
  refine lv_iload_n hx hb dL_law_811 rfl (lv_at hl 3 rfl) ?_
  refine lv_iconst (v := 1) hx hb dL_law_812 (by decide) ?_
  refine lv_iadd hx hb dL_law_813 ?_
  obtain ⟨x6, e, hf⟩ := ob hf
  refine q_sc e hx hb hX hbl hw dL_law_814 ?_
  refine lv_aload_n hx hb dL_law_815 rfl (lv_at hl 0 rfl) ?_
  refine lv_iload_n hx hb dL_law_816 rfl (lv_at hl 3 rfl) ?_
  refine lv_iconst (v := 2) hx hb dL_law_817 (by decide) ?_
  refine lv_iadd hx hb dL_law_818 ?_
  obtain ⟨x7, e, hf⟩ := ob hf
  refine q_sc e hx hb hX hbl hw dL_law_819 ?_
  obtain ⟨⟨x8, h9⟩, e, hf⟩ := ob hf
  refine q_callV (As := [.int x6, .int x7]) (rest := [.long x3]) (st1 := [.long x8, .long x3]) (c_X12_mean G e) B hw hM.hz hM.hc0 (k_X12_mean e) (by decide) (ci := 12) rfl rfl my_X12_mean mv_X12_mean tw_8_47 ⟨Nat.le_of_ble_eq_true rfl, Nat.le_of_ble_eq_true rfl⟩ hM.hcs rfl hl.1 rfl rfl (Nat.le_of_ble_eq_true rfl) dL_law_820 (fun H locs hw => ?_)
  refine W.lcmp hx hb dL_law_823 ?_
  refine lv_if_eq (tgt := 1395) hx hb dL_law_824 (by decide) (fun c10 => ?_) (fun c10 => ?_)
  · have hf := (if_pos c10).symm.trans hf
    obtain ⟨rfl, rfl⟩ := so2 hf
    exact hk _ _ _ hw hM (lv_sub hl [0, 1, 2, 3] rfl)
  · have hf := (if_neg c10).symm.trans hf
    refine lv_iconst (v := 0) hx hb dL_law_827 (by decide) ?_
    cases hf
def f_law_829 (n : Nat) (z0 : Sh) (L : Nat) (xs : Nat → Int32) (v1 v2 : Nat) (z : Sh) (h : Hp) (v3 : Int32) : Option (Hp × Sh) :=
  (sc L xs (v3 + 1)).bind fun x1 =>
  (f_X11_choice n z h v1 x1).bind fun (x2, h3, z4) =>
  gdL z0 z4 <|
  (sc L xs (v3 + 1)).bind fun x5 =>
  (f_X12_choice n z4 h3 v2 x5).bind fun (x6, h7) =>
  if x2 = x6 then
    some (h7, z4)
  else
    none
set_option maxHeartbeats 4000000 in
theorem w_law_829 {p : Program} {l : Launch} {e : Env} {s : State} {m : MethodId} {below : List Frame} {meth : Method} {c : Code} {E : Ev} {b L : Nat} {xs : Nat → Int32} {n : Nat} {z0 : Sh} {v1 v2 : Nat} {z : Sh} {h : Hp} {v3 : Int32} {h9 : Hp} {z9 : Sh} {H : Heap} {locs : List Loc} {ls : Array Slot} (G : Gl s E) (B : Bd p s s E m c cL_law 4 RL) (hX : va_X b L xs s s.heap) (hbl : b < s.heap.size) (hw : Pw s s E z h H locs) (hM : Mo s s z0 z (zLim z0)) (hl : lv_has ls 4 [(0, .ref b), (1, .ref v1), (2, .ref v2), (3, .int v3)]) (hf : f_law_829 n z0 L xs v1 v2 z h v3 = some (h9, z9)) (hk : ∀ (H : Heap) (locs : List Loc) (ls : Array Slot), Pw s s E z9 h9 H locs → Mo s s z0 z9 (zLim z0) → lv_has ls 4 [(0, .ref b), (1, .ref v1), (2, .ref v2), (3, .int v3)] → W p l e (rmA 2048 84000 z0 (zLim z0)) s m #[Value.ref b] below meth c H locs (z9.sz - z0.sz) (z9.sl - z0.sl) (lw_Z below #[Value.ref b] s) (F0 m 1395 ls [])) : W p l e (rmA 2048 84000 z0 (zLim z0)) s m #[Value.ref b] below meth c H locs (z.sz - z0.sz) (z.sl - z0.sl) (lw_Z below #[Value.ref b] s) (F0 m 829 ls []) := by
  have hx := B.1
  have hb := B.2.1
  unfold f_law_829 at hf
  refine lv_aload_n hx hb dL_law_829 rfl (lv_at hl 1 rfl) ?_
  refine lv_aload_n hx hb dL_law_830 rfl (lv_at hl 0 rfl) ?_
  refine lv_iload_n hx hb dL_law_831 rfl (lv_at hl 3 rfl) ?_
  refine lv_iconst (v := 1) hx hb dL_law_832 (by decide) ?_
  refine lv_iadd hx hb dL_law_833 ?_
  obtain ⟨x1, e, hf⟩ := ob hf
  refine q_sc e hx hb hX hbl hw dL_law_834 ?_
  obtain ⟨⟨x2, h3, z4⟩, e, hf⟩ := ob hf
  obtain ⟨hg, hf⟩ := gdL_some hf
  refine q_callVA (As := [.int x1]) (rest := []) (st1 := [.int x2]) (c_X11_choice G e) (mo_X11_choice e) hg B hw hM (k_X11_choice e) (by decide) (ci := 11) rfl rfl my_X11_choice mv_X11_choice tw_5_87 ⟨Nat.le_of_ble_eq_true rfl, Nat.le_of_ble_eq_true rfl⟩ rfl hl.1 rfl rfl (Nat.le_of_ble_eq_true rfl) dL_law_835 (fun H locs hw hM => ?_)
  refine lv_aload_n hx hb dL_law_838 rfl (lv_at hl 2 rfl) ?_
  refine lv_aload_n hx hb dL_law_839 rfl (lv_at hl 0 rfl) ?_
  refine lv_iload_n hx hb dL_law_840 rfl (lv_at hl 3 rfl) ?_
  refine lv_iconst (v := 1) hx hb dL_law_841 (by decide) ?_
  refine lv_iadd hx hb dL_law_842 ?_
  obtain ⟨x5, e, hf⟩ := ob hf
  refine q_sc e hx hb hX hbl hw dL_law_843 ?_
  obtain ⟨⟨x6, h7⟩, e, hf⟩ := ob hf
  refine q_callV (As := [.int x5]) (rest := [.int x2]) (st1 := [.int x6, .int x2]) (c_X12_choice G e) B hw hM.hz hM.hc0 (k_X12_choice e) (by decide) (ci := 12) rfl rfl my_X12_choice mv_X12_choice tw_8_70 ⟨Nat.le_of_ble_eq_true rfl, Nat.le_of_ble_eq_true rfl⟩ hM.hcs rfl hl.1 rfl rfl (Nat.le_of_ble_eq_true rfl) dL_law_844 (fun H locs hw => ?_)
  refine lv_icmp_eq (tgt := 1395) hx hb dL_law_847 (by decide) (fun c8 => ?_) (fun c8 => ?_)
  · have hf := (if_pos c8).symm.trans hf
    obtain ⟨rfl, rfl⟩ := so2 hf
    exact hk _ _ _ hw hM (lv_sub hl [0, 1, 2, 3] rfl)
  · have hf := (if_neg c8).symm.trans hf
    refine lv_iconst (v := 0) hx hb dL_law_850 (by decide) ?_
    cases hf
def f_law_852 (n : Nat) (z0 : Sh) (L : Nat) (xs : Nat → Int32) (v1 v2 : Nat) (z : Sh) (h : Hp) (v3 : Int32) : Option (Hp × Sh) :=
  (sc L xs (v3 + 1)).bind fun x1 =>
  (f_X11_drawing n z h v1 x1).bind fun (x2, h3, z4) =>
  gdL z0 z4 <|
  (sc L xs (v3 + 1)).bind fun x5 =>
  (f_X12_drawing n z4 h3 v2 x5).bind fun (x6, h7) =>
  if x2 = x6 then
    some (h7, z4)
  else
    none
set_option maxHeartbeats 4000000 in
theorem w_law_852 {p : Program} {l : Launch} {e : Env} {s : State} {m : MethodId} {below : List Frame} {meth : Method} {c : Code} {E : Ev} {b L : Nat} {xs : Nat → Int32} {n : Nat} {z0 : Sh} {v1 v2 : Nat} {z : Sh} {h : Hp} {v3 : Int32} {h9 : Hp} {z9 : Sh} {H : Heap} {locs : List Loc} {ls : Array Slot} (G : Gl s E) (B : Bd p s s E m c cL_law 4 RL) (hX : va_X b L xs s s.heap) (hbl : b < s.heap.size) (hw : Pw s s E z h H locs) (hM : Mo s s z0 z (zLim z0)) (hl : lv_has ls 4 [(0, .ref b), (1, .ref v1), (2, .ref v2), (3, .int v3)]) (hf : f_law_852 n z0 L xs v1 v2 z h v3 = some (h9, z9)) (hk : ∀ (H : Heap) (locs : List Loc) (ls : Array Slot), Pw s s E z9 h9 H locs → Mo s s z0 z9 (zLim z0) → lv_has ls 4 [(0, .ref b), (1, .ref v1), (2, .ref v2), (3, .int v3)] → W p l e (rmA 2048 84000 z0 (zLim z0)) s m #[Value.ref b] below meth c H locs (z9.sz - z0.sz) (z9.sl - z0.sl) (lw_Z below #[Value.ref b] s) (F0 m 1395 ls [])) : W p l e (rmA 2048 84000 z0 (zLim z0)) s m #[Value.ref b] below meth c H locs (z.sz - z0.sz) (z.sl - z0.sl) (lw_Z below #[Value.ref b] s) (F0 m 852 ls []) := by
  have hx := B.1
  have hb := B.2.1
  unfold f_law_852 at hf
  refine lv_aload_n hx hb dL_law_852 rfl (lv_at hl 1 rfl) ?_
  refine lv_aload_n hx hb dL_law_853 rfl (lv_at hl 0 rfl) ?_
  refine lv_iload_n hx hb dL_law_854 rfl (lv_at hl 3 rfl) ?_
  refine lv_iconst (v := 1) hx hb dL_law_855 (by decide) ?_
  refine lv_iadd hx hb dL_law_856 ?_
  obtain ⟨x1, e, hf⟩ := ob hf
  refine q_sc e hx hb hX hbl hw dL_law_857 ?_
  obtain ⟨⟨x2, h3, z4⟩, e, hf⟩ := ob hf
  obtain ⟨hg, hf⟩ := gdL_some hf
  refine q_callVA (As := [.int x1]) (rest := []) (st1 := [.int x2]) (c_X11_drawing G e) (mo_X11_drawing e) hg B hw hM (k_X11_drawing e) (by decide) (ci := 11) rfl rfl my_X11_drawing mv_X11_drawing tw_5_95 ⟨Nat.le_of_ble_eq_true rfl, Nat.le_of_ble_eq_true rfl⟩ rfl hl.1 rfl rfl (Nat.le_of_ble_eq_true rfl) dL_law_858 (fun H locs hw hM => ?_)
  refine lv_aload_n hx hb dL_law_861 rfl (lv_at hl 2 rfl) ?_
  refine lv_aload_n hx hb dL_law_862 rfl (lv_at hl 0 rfl) ?_
  refine lv_iload_n hx hb dL_law_863 rfl (lv_at hl 3 rfl) ?_
  refine lv_iconst (v := 1) hx hb dL_law_864 (by decide) ?_
  refine lv_iadd hx hb dL_law_865 ?_
  obtain ⟨x5, e, hf⟩ := ob hf
  refine q_sc e hx hb hX hbl hw dL_law_866 ?_
  obtain ⟨⟨x6, h7⟩, e, hf⟩ := ob hf
  refine q_callV (As := [.int x5]) (rest := [.int x2]) (st1 := [.int x6, .int x2]) (c_X12_drawing G e) B hw hM.hz hM.hc0 (k_X12_drawing e) (by decide) (ci := 12) rfl rfl my_X12_drawing mv_X12_drawing tw_8_74 ⟨Nat.le_of_ble_eq_true rfl, Nat.le_of_ble_eq_true rfl⟩ hM.hcs rfl hl.1 rfl rfl (Nat.le_of_ble_eq_true rfl) dL_law_867 (fun H locs hw => ?_)
  refine lv_icmp_eq (tgt := 1395) hx hb dL_law_870 (by decide) (fun c8 => ?_) (fun c8 => ?_)
  · have hf := (if_pos c8).symm.trans hf
    obtain ⟨rfl, rfl⟩ := so2 hf
    exact hk _ _ _ hw hM (lv_sub hl [0, 1, 2, 3] rfl)
  · have hf := (if_neg c8).symm.trans hf
    refine lv_iconst (v := 0) hx hb dL_law_873 (by decide) ?_
    cases hf
def f_law_875 (n : Nat) (z0 : Sh) (L : Nat) (xs : Nat → Int32) (v1 v2 : Nat) (z : Sh) (h : Hp) (v3 : Int32) : Option (Hp × Sh) :=
  (sc L xs (v3 + 1)).bind fun x1 =>
  (sc L xs (v3 + 2)).bind fun x2 =>
  (sc L xs (v3 + 3)).bind fun x3 =>
  (f_X11_hope n z h v1 x1 x2 x3).bind fun (x4, h5, z6) =>
  gdL z0 z6 <|
  (sc L xs (v3 + 1)).bind fun x7 =>
  (sc L xs (v3 + 2)).bind fun x8 =>
  (sc L xs (v3 + 3)).bind fun x9 =>
  (f_X12_hope n z6 h5 v2 x7 x8 x9).bind fun (x10, h11) =>
  if (lg_cmp x4 x10) = 0 then
    some (h11, z6)
  else
    none
set_option maxHeartbeats 4000000 in
theorem w_law_875 {p : Program} {l : Launch} {e : Env} {s : State} {m : MethodId} {below : List Frame} {meth : Method} {c : Code} {E : Ev} {b L : Nat} {xs : Nat → Int32} {n : Nat} {z0 : Sh} {v1 v2 : Nat} {z : Sh} {h : Hp} {v3 : Int32} {h9 : Hp} {z9 : Sh} {H : Heap} {locs : List Loc} {ls : Array Slot} (G : Gl s E) (B : Bd p s s E m c cL_law 4 RL) (hX : va_X b L xs s s.heap) (hbl : b < s.heap.size) (hw : Pw s s E z h H locs) (hM : Mo s s z0 z (zLim z0)) (hl : lv_has ls 4 [(0, .ref b), (1, .ref v1), (2, .ref v2), (3, .int v3)]) (hf : f_law_875 n z0 L xs v1 v2 z h v3 = some (h9, z9)) (hk : ∀ (H : Heap) (locs : List Loc) (ls : Array Slot), Pw s s E z9 h9 H locs → Mo s s z0 z9 (zLim z0) → lv_has ls 4 [(0, .ref b), (1, .ref v1), (2, .ref v2), (3, .int v3)] → W p l e (rmA 2048 84000 z0 (zLim z0)) s m #[Value.ref b] below meth c H locs (z9.sz - z0.sz) (z9.sl - z0.sl) (lw_Z below #[Value.ref b] s) (F0 m 1395 ls [])) : W p l e (rmA 2048 84000 z0 (zLim z0)) s m #[Value.ref b] below meth c H locs (z.sz - z0.sz) (z.sl - z0.sl) (lw_Z below #[Value.ref b] s) (F0 m 875 ls []) := by
  have hx := B.1
  have hb := B.2.1
  unfold f_law_875 at hf
  refine lv_aload_n hx hb dL_law_875 rfl (lv_at hl 1 rfl) ?_
  refine lv_aload_n hx hb dL_law_876 rfl (lv_at hl 0 rfl) ?_
  refine lv_iload_n hx hb dL_law_877 rfl (lv_at hl 3 rfl) ?_
  refine lv_iconst (v := 1) hx hb dL_law_878 (by decide) ?_
  refine lv_iadd hx hb dL_law_879 ?_
  obtain ⟨x1, e, hf⟩ := ob hf
  refine q_sc e hx hb hX hbl hw dL_law_880 ?_
  refine lv_aload_n hx hb dL_law_881 rfl (lv_at hl 0 rfl) ?_
  refine lv_iload_n hx hb dL_law_882 rfl (lv_at hl 3 rfl) ?_
  refine lv_iconst (v := 2) hx hb dL_law_883 (by decide) ?_
  refine lv_iadd hx hb dL_law_884 ?_
  obtain ⟨x2, e, hf⟩ := ob hf
  refine q_sc e hx hb hX hbl hw dL_law_885 ?_
  refine lv_aload_n hx hb dL_law_886 rfl (lv_at hl 0 rfl) ?_
  refine lv_iload_n hx hb dL_law_887 rfl (lv_at hl 3 rfl) ?_
  refine lv_iconst (v := 3) hx hb dL_law_888 (by decide) ?_
  refine lv_iadd hx hb dL_law_889 ?_
  obtain ⟨x3, e, hf⟩ := ob hf
  refine q_sc e hx hb hX hbl hw dL_law_890 ?_
  obtain ⟨⟨x4, h5, z6⟩, e, hf⟩ := ob hf
  obtain ⟨hg, hf⟩ := gdL_some hf
  refine q_callVA (As := [.int x1, .int x2, .int x3]) (rest := []) (st1 := [.long x4]) (c_X11_hope G e) (mo_X11_hope e) hg B hw hM (k_X11_hope e) (by decide) (ci := 11) rfl rfl my_X11_hope mv_X11_hope tw_5_103 ⟨Nat.le_of_ble_eq_true rfl, Nat.le_of_ble_eq_true rfl⟩ rfl hl.1 rfl rfl (Nat.le_of_ble_eq_true rfl) dL_law_891 (fun H locs hw hM => ?_)
  refine lv_aload_n hx hb dL_law_894 rfl (lv_at hl 2 rfl) ?_
  refine lv_aload_n hx hb dL_law_895 rfl (lv_at hl 0 rfl) ?_
  refine lv_iload_n hx hb dL_law_896 rfl (lv_at hl 3 rfl) ?_
  refine lv_iconst (v := 1) hx hb dL_law_897 (by decide) ?_
  refine lv_iadd hx hb dL_law_898 ?_
  obtain ⟨x7, e, hf⟩ := ob hf
  refine q_sc e hx hb hX hbl hw dL_law_899 ?_
  refine lv_aload_n hx hb dL_law_900 rfl (lv_at hl 0 rfl) ?_
  refine lv_iload_n hx hb dL_law_901 rfl (lv_at hl 3 rfl) ?_
  refine lv_iconst (v := 2) hx hb dL_law_902 (by decide) ?_
  refine lv_iadd hx hb dL_law_903 ?_
  obtain ⟨x8, e, hf⟩ := ob hf
  refine q_sc e hx hb hX hbl hw dL_law_904 ?_
  refine lv_aload_n hx hb dL_law_905 rfl (lv_at hl 0 rfl) ?_
  refine lv_iload_n hx hb dL_law_906 rfl (lv_at hl 3 rfl) ?_
  refine lv_iconst (v := 3) hx hb dL_law_907 (by decide) ?_
  refine lv_iadd hx hb dL_law_908 ?_
  obtain ⟨x9, e, hf⟩ := ob hf
  refine q_sc e hx hb hX hbl hw dL_law_909 ?_
  obtain ⟨⟨x10, h11⟩, e, hf⟩ := ob hf
  refine q_callV (As := [.int x7, .int x8, .int x9]) (rest := [.long x4]) (st1 := [.long x10, .long x4]) (c_X12_hope G e) B hw hM.hz hM.hc0 (k_X12_hope e) (by decide) (ci := 12) rfl rfl my_X12_hope mv_X12_hope tw_8_78 ⟨Nat.le_of_ble_eq_true rfl, Nat.le_of_ble_eq_true rfl⟩ hM.hcs rfl hl.1 rfl rfl (Nat.le_of_ble_eq_true rfl) dL_law_910 (fun H locs hw => ?_)
  refine W.lcmp hx hb dL_law_913 ?_
  refine lv_if_eq (tgt := 1395) hx hb dL_law_914 (by decide) (fun c12 => ?_) (fun c12 => ?_)
  · have hf := (if_pos c12).symm.trans hf
    obtain ⟨rfl, rfl⟩ := so2 hf
    exact hk _ _ _ hw hM (lv_sub hl [0, 1, 2, 3] rfl)
  · have hf := (if_neg c12).symm.trans hf
    refine lv_iconst (v := 0) hx hb dL_law_917 (by decide) ?_
    cases hf
def f_law_919 (n : Nat) (z0 : Sh) (L : Nat) (xs : Nat → Int32) (v1 v2 : Nat) (z : Sh) (h : Hp) (v3 : Int32) : Option (Hp × Sh) :=
  (sc L xs (v3 + 1)).bind fun x1 =>
  (sc L xs (v3 + 2)).bind fun x2 =>
  (f_X11_hoping n z h v1 x1 x2).bind fun (x3, h4, z5) =>
  gdL z0 z5 <|
  (sc L xs (v3 + 1)).bind fun x6 =>
  (sc L xs (v3 + 2)).bind fun x7 =>
  (f_X12_hoping n z5 h4 v2 x6 x7).bind fun (x8, h9) =>
  if x3 = x8 then
    some (h9, z5)
  else
    none
set_option maxHeartbeats 4000000 in
theorem w_law_919 {p : Program} {l : Launch} {e : Env} {s : State} {m : MethodId} {below : List Frame} {meth : Method} {c : Code} {E : Ev} {b L : Nat} {xs : Nat → Int32} {n : Nat} {z0 : Sh} {v1 v2 : Nat} {z : Sh} {h : Hp} {v3 : Int32} {h9 : Hp} {z9 : Sh} {H : Heap} {locs : List Loc} {ls : Array Slot} (G : Gl s E) (B : Bd p s s E m c cL_law 4 RL) (hX : va_X b L xs s s.heap) (hbl : b < s.heap.size) (hw : Pw s s E z h H locs) (hM : Mo s s z0 z (zLim z0)) (hl : lv_has ls 4 [(0, .ref b), (1, .ref v1), (2, .ref v2), (3, .int v3)]) (hf : f_law_919 n z0 L xs v1 v2 z h v3 = some (h9, z9)) (hk : ∀ (H : Heap) (locs : List Loc) (ls : Array Slot), Pw s s E z9 h9 H locs → Mo s s z0 z9 (zLim z0) → lv_has ls 4 [(0, .ref b), (1, .ref v1), (2, .ref v2), (3, .int v3)] → W p l e (rmA 2048 84000 z0 (zLim z0)) s m #[Value.ref b] below meth c H locs (z9.sz - z0.sz) (z9.sl - z0.sl) (lw_Z below #[Value.ref b] s) (F0 m 1395 ls [])) : W p l e (rmA 2048 84000 z0 (zLim z0)) s m #[Value.ref b] below meth c H locs (z.sz - z0.sz) (z.sl - z0.sl) (lw_Z below #[Value.ref b] s) (F0 m 919 ls []) := by
  have hx := B.1
  have hb := B.2.1
  unfold f_law_919 at hf
  refine lv_aload_n hx hb dL_law_919 rfl (lv_at hl 1 rfl) ?_
  refine lv_aload_n hx hb dL_law_920 rfl (lv_at hl 0 rfl) ?_
  refine lv_iload_n hx hb dL_law_921 rfl (lv_at hl 3 rfl) ?_
  refine lv_iconst (v := 1) hx hb dL_law_922 (by decide) ?_
  refine lv_iadd hx hb dL_law_923 ?_
  obtain ⟨x1, e, hf⟩ := ob hf
  refine q_sc e hx hb hX hbl hw dL_law_924 ?_
  refine lv_aload_n hx hb dL_law_925 rfl (lv_at hl 0 rfl) ?_
  refine lv_iload_n hx hb dL_law_926 rfl (lv_at hl 3 rfl) ?_
  refine lv_iconst (v := 2) hx hb dL_law_927 (by decide) ?_
  refine lv_iadd hx hb dL_law_928 ?_
  obtain ⟨x2, e, hf⟩ := ob hf
  refine q_sc e hx hb hX hbl hw dL_law_929 ?_
  obtain ⟨⟨x3, h4, z5⟩, e, hf⟩ := ob hf
  obtain ⟨hg, hf⟩ := gdL_some hf
  refine q_callVA (As := [.int x1, .int x2]) (rest := []) (st1 := [.int x3]) (c_X11_hoping G e) (mo_X11_hoping e) hg B hw hM (k_X11_hoping e) (by decide) (ci := 11) rfl rfl my_X11_hoping mv_X11_hoping tw_5_137 ⟨Nat.le_of_ble_eq_true rfl, Nat.le_of_ble_eq_true rfl⟩ rfl hl.1 rfl rfl (Nat.le_of_ble_eq_true rfl) dL_law_930 (fun H locs hw hM => ?_)
  refine lv_aload_n hx hb dL_law_933 rfl (lv_at hl 2 rfl) ?_
  refine lv_aload_n hx hb dL_law_934 rfl (lv_at hl 0 rfl) ?_
  refine lv_iload_n hx hb dL_law_935 rfl (lv_at hl 3 rfl) ?_
  refine lv_iconst (v := 1) hx hb dL_law_936 (by decide) ?_
  refine lv_iadd hx hb dL_law_937 ?_
  obtain ⟨x6, e, hf⟩ := ob hf
  refine q_sc e hx hb hX hbl hw dL_law_938 ?_
  refine lv_aload_n hx hb dL_law_939 rfl (lv_at hl 0 rfl) ?_
  refine lv_iload_n hx hb dL_law_940 rfl (lv_at hl 3 rfl) ?_
  refine lv_iconst (v := 2) hx hb dL_law_941 (by decide) ?_
  refine lv_iadd hx hb dL_law_942 ?_
  obtain ⟨x7, e, hf⟩ := ob hf
  refine q_sc e hx hb hX hbl hw dL_law_943 ?_
  obtain ⟨⟨x8, h9⟩, e, hf⟩ := ob hf
  refine q_callV (As := [.int x6, .int x7]) (rest := [.int x3]) (st1 := [.int x8, .int x3]) (c_X12_hoping G e) B hw hM.hz hM.hc0 (k_X12_hoping e) (by decide) (ci := 12) rfl rfl my_X12_hoping mv_X12_hoping tw_8_105 ⟨Nat.le_of_ble_eq_true rfl, Nat.le_of_ble_eq_true rfl⟩ hM.hcs rfl hl.1 rfl rfl (Nat.le_of_ble_eq_true rfl) dL_law_944 (fun H locs hw => ?_)
  refine lv_icmp_eq (tgt := 1395) hx hb dL_law_947 (by decide) (fun c10 => ?_) (fun c10 => ?_)
  · have hf := (if_pos c10).symm.trans hf
    obtain ⟨rfl, rfl⟩ := so2 hf
    exact hk _ _ _ hw hM (lv_sub hl [0, 1, 2, 3] rfl)
  · have hf := (if_neg c10).symm.trans hf
    refine lv_iconst (v := 0) hx hb dL_law_950 (by decide) ?_
    cases hf
def f_law_952 (n : Nat) (z0 : Sh) (L : Nat) (xs : Nat → Int32) (v1 v2 : Nat) (z : Sh) (h : Hp) (v3 : Int32) : Option (Hp × Sh) :=
  (sc L xs (v3 + 1)).bind fun x1 =>
  (sc L xs (v3 + 2)).bind fun x2 =>
  (sc L xs (v3 + 3)).bind fun x3 =>
  (f_X11_talents n z h v1 x1 x2 x3).bind fun (x4, h5) =>
  (sc L xs (v3 + 1)).bind fun x6 =>
  (sc L xs (v3 + 2)).bind fun x7 =>
  (sc L xs (v3 + 3)).bind fun x8 =>
  (f_X12_talents n z h5 v2 x6 x7 x8).bind fun (x9, h10) =>
  if x4 = x9 then
    some (h10, z)
  else
    none
set_option maxHeartbeats 4000000 in
theorem w_law_952 {p : Program} {l : Launch} {e : Env} {s : State} {m : MethodId} {below : List Frame} {meth : Method} {c : Code} {E : Ev} {b L : Nat} {xs : Nat → Int32} {n : Nat} {z0 : Sh} {v1 v2 : Nat} {z : Sh} {h : Hp} {v3 : Int32} {h9 : Hp} {z9 : Sh} {H : Heap} {locs : List Loc} {ls : Array Slot} (G : Gl s E) (B : Bd p s s E m c cL_law 4 RL) (hX : va_X b L xs s s.heap) (hbl : b < s.heap.size) (hw : Pw s s E z h H locs) (hM : Mo s s z0 z (zLim z0)) (hl : lv_has ls 4 [(0, .ref b), (1, .ref v1), (2, .ref v2), (3, .int v3)]) (hf : f_law_952 n z0 L xs v1 v2 z h v3 = some (h9, z9)) (hk : ∀ (H : Heap) (locs : List Loc) (ls : Array Slot), Pw s s E z9 h9 H locs → Mo s s z0 z9 (zLim z0) → lv_has ls 4 [(0, .ref b), (1, .ref v1), (2, .ref v2), (3, .int v3)] → W p l e (rmA 2048 84000 z0 (zLim z0)) s m #[Value.ref b] below meth c H locs (z9.sz - z0.sz) (z9.sl - z0.sl) (lw_Z below #[Value.ref b] s) (F0 m 1395 ls [])) : W p l e (rmA 2048 84000 z0 (zLim z0)) s m #[Value.ref b] below meth c H locs (z.sz - z0.sz) (z.sl - z0.sl) (lw_Z below #[Value.ref b] s) (F0 m 952 ls []) := by
  have hx := B.1
  have hb := B.2.1
  unfold f_law_952 at hf
  refine lv_aload_n hx hb dL_law_952 rfl (lv_at hl 1 rfl) ?_
  refine lv_aload_n hx hb dL_law_953 rfl (lv_at hl 0 rfl) ?_
  refine lv_iload_n hx hb dL_law_954 rfl (lv_at hl 3 rfl) ?_
  refine lv_iconst (v := 1) hx hb dL_law_955 (by decide) ?_
  refine lv_iadd hx hb dL_law_956 ?_
  obtain ⟨x1, e, hf⟩ := ob hf
  refine q_sc e hx hb hX hbl hw dL_law_957 ?_
  refine lv_aload_n hx hb dL_law_958 rfl (lv_at hl 0 rfl) ?_
  refine lv_iload_n hx hb dL_law_959 rfl (lv_at hl 3 rfl) ?_
  refine lv_iconst (v := 2) hx hb dL_law_960 (by decide) ?_
  refine lv_iadd hx hb dL_law_961 ?_
  obtain ⟨x2, e, hf⟩ := ob hf
  refine q_sc e hx hb hX hbl hw dL_law_962 ?_
  refine lv_aload_n hx hb dL_law_963 rfl (lv_at hl 0 rfl) ?_
  refine lv_iload_n hx hb dL_law_964 rfl (lv_at hl 3 rfl) ?_
  refine lv_iconst (v := 3) hx hb dL_law_965 (by decide) ?_
  refine lv_iadd hx hb dL_law_966 ?_
  obtain ⟨x3, e, hf⟩ := ob hf
  refine q_sc e hx hb hX hbl hw dL_law_967 ?_
  obtain ⟨⟨x4, h5⟩, e, hf⟩ := ob hf
  refine q_callV (As := [.int x1, .int x2, .int x3]) (rest := []) (st1 := [.int x4]) (c_X11_talents G e) B hw hM.hz hM.hc0 (k_X11_talents e) (by decide) (ci := 11) rfl rfl my_X11_talents mv_X11_talents tw_5_146 ⟨Nat.le_of_ble_eq_true rfl, Nat.le_of_ble_eq_true rfl⟩ hM.hcs rfl hl.1 rfl rfl (Nat.le_of_ble_eq_true rfl) dL_law_968 (fun H locs hw => ?_)
  refine lv_aload_n hx hb dL_law_971 rfl (lv_at hl 2 rfl) ?_
  refine lv_aload_n hx hb dL_law_972 rfl (lv_at hl 0 rfl) ?_
  refine lv_iload_n hx hb dL_law_973 rfl (lv_at hl 3 rfl) ?_
  refine lv_iconst (v := 1) hx hb dL_law_974 (by decide) ?_
  refine lv_iadd hx hb dL_law_975 ?_
  obtain ⟨x6, e, hf⟩ := ob hf
  refine q_sc e hx hb hX hbl hw dL_law_976 ?_
  refine lv_aload_n hx hb dL_law_977 rfl (lv_at hl 0 rfl) ?_
  refine lv_iload_n hx hb dL_law_978 rfl (lv_at hl 3 rfl) ?_
  refine lv_iconst (v := 2) hx hb dL_law_979 (by decide) ?_
  refine lv_iadd hx hb dL_law_980 ?_
  obtain ⟨x7, e, hf⟩ := ob hf
  refine q_sc e hx hb hX hbl hw dL_law_981 ?_
  refine lv_aload_n hx hb dL_law_982 rfl (lv_at hl 0 rfl) ?_
  refine lv_iload_n hx hb dL_law_983 rfl (lv_at hl 3 rfl) ?_
  refine lv_iconst (v := 3) hx hb dL_law_984 (by decide) ?_
  refine lv_iadd hx hb dL_law_985 ?_
  obtain ⟨x8, e, hf⟩ := ob hf
  refine q_sc e hx hb hX hbl hw dL_law_986 ?_
  obtain ⟨⟨x9, h10⟩, e, hf⟩ := ob hf
  refine q_callV (As := [.int x6, .int x7, .int x8]) (rest := [.int x4]) (st1 := [.int x9, .int x4]) (c_X12_talents G e) B hw hM.hz hM.hc0 (k_X12_talents e) (by decide) (ci := 12) rfl rfl my_X12_talents mv_X12_talents tw_8_109 ⟨Nat.le_of_ble_eq_true rfl, Nat.le_of_ble_eq_true rfl⟩ hM.hcs rfl hl.1 rfl rfl (Nat.le_of_ble_eq_true rfl) dL_law_987 (fun H locs hw => ?_)
  refine lv_icmp_eq (tgt := 1395) hx hb dL_law_990 (by decide) (fun c11 => ?_) (fun c11 => ?_)
  · have hf := (if_pos c11).symm.trans hf
    obtain ⟨rfl, rfl⟩ := so2 hf
    exact hk _ _ _ hw hM (lv_sub hl [0, 1, 2, 3] rfl)
  · have hf := (if_neg c11).symm.trans hf
    refine lv_iconst (v := 0) hx hb dL_law_993 (by decide) ?_
    cases hf
def f_law_995 (n : Nat) (z0 : Sh) (L : Nat) (xs : Nat → Int32) (v1 v2 : Nat) (z : Sh) (h : Hp) (v3 : Int32) : Option (Hp × Sh) :=
  (sc L xs (v3 + 1)).bind fun x1 =>
  (sc L xs (v3 + 2)).bind fun x2 =>
  (sc L xs (v3 + 3)).bind fun x3 =>
  (f_X11_attempt n z h v1 x1 x2 x3).bind fun (x4, h5) =>
  (sc L xs (v3 + 1)).bind fun x6 =>
  (sc L xs (v3 + 2)).bind fun x7 =>
  (sc L xs (v3 + 3)).bind fun x8 =>
  (f_X12_attempt n z h5 v2 x6 x7 x8).bind fun (x9, h10) =>
  if x4 = x9 then
    some (h10, z)
  else
    none
set_option maxHeartbeats 4000000 in
theorem w_law_995 {p : Program} {l : Launch} {e : Env} {s : State} {m : MethodId} {below : List Frame} {meth : Method} {c : Code} {E : Ev} {b L : Nat} {xs : Nat → Int32} {n : Nat} {z0 : Sh} {v1 v2 : Nat} {z : Sh} {h : Hp} {v3 : Int32} {h9 : Hp} {z9 : Sh} {H : Heap} {locs : List Loc} {ls : Array Slot} (G : Gl s E) (B : Bd p s s E m c cL_law 4 RL) (hX : va_X b L xs s s.heap) (hbl : b < s.heap.size) (hw : Pw s s E z h H locs) (hM : Mo s s z0 z (zLim z0)) (hl : lv_has ls 4 [(0, .ref b), (1, .ref v1), (2, .ref v2), (3, .int v3)]) (hf : f_law_995 n z0 L xs v1 v2 z h v3 = some (h9, z9)) (hk : ∀ (H : Heap) (locs : List Loc) (ls : Array Slot), Pw s s E z9 h9 H locs → Mo s s z0 z9 (zLim z0) → lv_has ls 4 [(0, .ref b), (1, .ref v1), (2, .ref v2), (3, .int v3)] → W p l e (rmA 2048 84000 z0 (zLim z0)) s m #[Value.ref b] below meth c H locs (z9.sz - z0.sz) (z9.sl - z0.sl) (lw_Z below #[Value.ref b] s) (F0 m 1395 ls [])) : W p l e (rmA 2048 84000 z0 (zLim z0)) s m #[Value.ref b] below meth c H locs (z.sz - z0.sz) (z.sl - z0.sl) (lw_Z below #[Value.ref b] s) (F0 m 995 ls []) := by
  have hx := B.1
  have hb := B.2.1
  unfold f_law_995 at hf
  refine lv_aload_n hx hb dL_law_995 rfl (lv_at hl 1 rfl) ?_
  refine lv_aload_n hx hb dL_law_996 rfl (lv_at hl 0 rfl) ?_
  refine lv_iload_n hx hb dL_law_997 rfl (lv_at hl 3 rfl) ?_
  refine lv_iconst (v := 1) hx hb dL_law_998 (by decide) ?_
  refine lv_iadd hx hb dL_law_999 ?_
  obtain ⟨x1, e, hf⟩ := ob hf
  refine q_sc e hx hb hX hbl hw dL_law_1000 ?_
  refine lv_aload_n hx hb dL_law_1001 rfl (lv_at hl 0 rfl) ?_
  refine lv_iload_n hx hb dL_law_1002 rfl (lv_at hl 3 rfl) ?_
  refine lv_iconst (v := 2) hx hb dL_law_1003 (by decide) ?_
  refine lv_iadd hx hb dL_law_1004 ?_
  obtain ⟨x2, e, hf⟩ := ob hf
  refine q_sc e hx hb hX hbl hw dL_law_1005 ?_
  refine lv_aload_n hx hb dL_law_1006 rfl (lv_at hl 0 rfl) ?_
  refine lv_iload_n hx hb dL_law_1007 rfl (lv_at hl 3 rfl) ?_
  refine lv_iconst (v := 3) hx hb dL_law_1008 (by decide) ?_
  refine lv_iadd hx hb dL_law_1009 ?_
  obtain ⟨x3, e, hf⟩ := ob hf
  refine q_sc e hx hb hX hbl hw dL_law_1010 ?_
  obtain ⟨⟨x4, h5⟩, e, hf⟩ := ob hf
  refine q_callV (As := [.int x1, .int x2, .int x3]) (rest := []) (st1 := [.int x4]) (c_X11_attempt G e) B hw hM.hz hM.hc0 (k_X11_attempt e) (by decide) (ci := 11) rfl rfl my_X11_attempt mv_X11_attempt tw_5_159 ⟨Nat.le_of_ble_eq_true rfl, Nat.le_of_ble_eq_true rfl⟩ hM.hcs rfl hl.1 rfl rfl (Nat.le_of_ble_eq_true rfl) dL_law_1011 (fun H locs hw => ?_)
  refine lv_aload_n hx hb dL_law_1014 rfl (lv_at hl 2 rfl) ?_
  refine lv_aload_n hx hb dL_law_1015 rfl (lv_at hl 0 rfl) ?_
  refine lv_iload_n hx hb dL_law_1016 rfl (lv_at hl 3 rfl) ?_
  refine lv_iconst (v := 1) hx hb dL_law_1017 (by decide) ?_
  refine lv_iadd hx hb dL_law_1018 ?_
  obtain ⟨x6, e, hf⟩ := ob hf
  refine q_sc e hx hb hX hbl hw dL_law_1019 ?_
  refine lv_aload_n hx hb dL_law_1020 rfl (lv_at hl 0 rfl) ?_
  refine lv_iload_n hx hb dL_law_1021 rfl (lv_at hl 3 rfl) ?_
  refine lv_iconst (v := 2) hx hb dL_law_1022 (by decide) ?_
  refine lv_iadd hx hb dL_law_1023 ?_
  obtain ⟨x7, e, hf⟩ := ob hf
  refine q_sc e hx hb hX hbl hw dL_law_1024 ?_
  refine lv_aload_n hx hb dL_law_1025 rfl (lv_at hl 0 rfl) ?_
  refine lv_iload_n hx hb dL_law_1026 rfl (lv_at hl 3 rfl) ?_
  refine lv_iconst (v := 3) hx hb dL_law_1027 (by decide) ?_
  refine lv_iadd hx hb dL_law_1028 ?_
  obtain ⟨x8, e, hf⟩ := ob hf
  refine q_sc e hx hb hX hbl hw dL_law_1029 ?_
  obtain ⟨⟨x9, h10⟩, e, hf⟩ := ob hf
  refine q_callV (As := [.int x6, .int x7, .int x8]) (rest := [.int x4]) (st1 := [.int x9, .int x4]) (c_X12_attempt G e) B hw hM.hz hM.hc0 (k_X12_attempt e) (by decide) (ci := 12) rfl rfl my_X12_attempt mv_X12_attempt tw_8_123 ⟨Nat.le_of_ble_eq_true rfl, Nat.le_of_ble_eq_true rfl⟩ hM.hcs rfl hl.1 rfl rfl (Nat.le_of_ble_eq_true rfl) dL_law_1030 (fun H locs hw => ?_)
  refine lv_icmp_eq (tgt := 1395) hx hb dL_law_1033 (by decide) (fun c11 => ?_) (fun c11 => ?_)
  · have hf := (if_pos c11).symm.trans hf
    obtain ⟨rfl, rfl⟩ := so2 hf
    exact hk _ _ _ hw hM (lv_sub hl [0, 1, 2, 3] rfl)
  · have hf := (if_neg c11).symm.trans hf
    refine lv_iconst (v := 0) hx hb dL_law_1036 (by decide) ?_
    cases hf
def f_law_1038 (n : Nat) (z0 : Sh) (L : Nat) (xs : Nat → Int32) (v1 v2 : Nat) (z : Sh) (h : Hp) (v3 : Int32) : Option (Hp × Sh) :=
  (sc L xs (v3 + 1)).bind fun x1 =>
  (f_X11_run n z h v1 x1).bind fun x2 =>
  (sc L xs (v3 + 1)).bind fun x3 =>
  (f_X12_run n z h v2 x3).bind fun (x4, h5) =>
  if x2 = x4 then
    some (h5, z)
  else
    none
set_option maxHeartbeats 4000000 in
theorem w_law_1038 {p : Program} {l : Launch} {e : Env} {s : State} {m : MethodId} {below : List Frame} {meth : Method} {c : Code} {E : Ev} {b L : Nat} {xs : Nat → Int32} {n : Nat} {z0 : Sh} {v1 v2 : Nat} {z : Sh} {h : Hp} {v3 : Int32} {h9 : Hp} {z9 : Sh} {H : Heap} {locs : List Loc} {ls : Array Slot} (G : Gl s E) (B : Bd p s s E m c cL_law 4 RL) (hX : va_X b L xs s s.heap) (hbl : b < s.heap.size) (hw : Pw s s E z h H locs) (hM : Mo s s z0 z (zLim z0)) (hl : lv_has ls 4 [(0, .ref b), (1, .ref v1), (2, .ref v2), (3, .int v3)]) (hf : f_law_1038 n z0 L xs v1 v2 z h v3 = some (h9, z9)) (hk : ∀ (H : Heap) (locs : List Loc) (ls : Array Slot), Pw s s E z9 h9 H locs → Mo s s z0 z9 (zLim z0) → lv_has ls 4 [(0, .ref b), (1, .ref v1), (2, .ref v2), (3, .int v3)] → W p l e (rmA 2048 84000 z0 (zLim z0)) s m #[Value.ref b] below meth c H locs (z9.sz - z0.sz) (z9.sl - z0.sl) (lw_Z below #[Value.ref b] s) (F0 m 1395 ls [])) : W p l e (rmA 2048 84000 z0 (zLim z0)) s m #[Value.ref b] below meth c H locs (z.sz - z0.sz) (z.sl - z0.sl) (lw_Z below #[Value.ref b] s) (F0 m 1038 ls []) := by
  have hx := B.1
  have hb := B.2.1
  unfold f_law_1038 at hf
  refine lv_aload_n hx hb dL_law_1038 rfl (lv_at hl 1 rfl) ?_
  refine lv_aload_n hx hb dL_law_1039 rfl (lv_at hl 0 rfl) ?_
  refine lv_iload_n hx hb dL_law_1040 rfl (lv_at hl 3 rfl) ?_
  refine lv_iconst (v := 1) hx hb dL_law_1041 (by decide) ?_
  refine lv_iadd hx hb dL_law_1042 ?_
  obtain ⟨x1, e, hf⟩ := ob hf
  refine q_sc e hx hb hX hbl hw dL_law_1043 ?_
  obtain ⟨x2, e, hf⟩ := ob hf
  refine q_callV (As := [.int x1]) (rest := []) (st1 := [.int x2]) (c_X11_run G e) B hw hM.hz hM.hc0 (k_X11_run e) (by decide) (ci := 11) rfl rfl my_X11_run mv_X11_run tw_5_169 ⟨Nat.le_of_ble_eq_true rfl, Nat.le_of_ble_eq_true rfl⟩ hM.hcs rfl hl.1 rfl rfl (Nat.le_of_ble_eq_true rfl) dL_law_1044 (fun H locs hw => ?_)
  refine lv_aload_n hx hb dL_law_1047 rfl (lv_at hl 2 rfl) ?_
  refine lv_aload_n hx hb dL_law_1048 rfl (lv_at hl 0 rfl) ?_
  refine lv_iload_n hx hb dL_law_1049 rfl (lv_at hl 3 rfl) ?_
  refine lv_iconst (v := 1) hx hb dL_law_1050 (by decide) ?_
  refine lv_iadd hx hb dL_law_1051 ?_
  obtain ⟨x3, e, hf⟩ := ob hf
  refine q_sc e hx hb hX hbl hw dL_law_1052 ?_
  obtain ⟨⟨x4, h5⟩, e, hf⟩ := ob hf
  refine q_callV (As := [.int x3]) (rest := [.int x2]) (st1 := [.int x4, .int x2]) (c_X12_run G e) B hw hM.hz hM.hc0 (k_X12_run e) (by decide) (ci := 12) rfl rfl my_X12_run mv_X12_run tw_8_134 ⟨Nat.le_of_ble_eq_true rfl, Nat.le_of_ble_eq_true rfl⟩ hM.hcs rfl hl.1 rfl rfl (Nat.le_of_ble_eq_true rfl) dL_law_1053 (fun H locs hw => ?_)
  refine lv_icmp_eq (tgt := 1395) hx hb dL_law_1056 (by decide) (fun c6 => ?_) (fun c6 => ?_)
  · have hf := (if_pos c6).symm.trans hf
    obtain ⟨rfl, rfl⟩ := so2 hf
    exact hk _ _ _ hw hM (lv_sub hl [0, 1, 2, 3] rfl)
  · have hf := (if_neg c6).symm.trans hf
    refine lv_iconst (v := 0) hx hb dL_law_1059 (by decide) ?_
    cases hf
def f_law_1061 (n : Nat) (z0 : Sh) (L : Nat) (xs : Nat → Int32) (v1 v2 : Nat) (z : Sh) (h : Hp) (v3 : Int32) : Option (Hp × Sh) :=
  (sc L xs (v3 + 1)).bind fun x1 =>
  (f_X11_rounds n z h v1 x1).bind fun x2 =>
  (sc L xs (v3 + 1)).bind fun x3 =>
  (f_X12_rounds n z h v2 x3).bind fun (x4, h5) =>
  if x2 = x4 then
    some (h5, z)
  else
    none
set_option maxHeartbeats 4000000 in
theorem w_law_1061 {p : Program} {l : Launch} {e : Env} {s : State} {m : MethodId} {below : List Frame} {meth : Method} {c : Code} {E : Ev} {b L : Nat} {xs : Nat → Int32} {n : Nat} {z0 : Sh} {v1 v2 : Nat} {z : Sh} {h : Hp} {v3 : Int32} {h9 : Hp} {z9 : Sh} {H : Heap} {locs : List Loc} {ls : Array Slot} (G : Gl s E) (B : Bd p s s E m c cL_law 4 RL) (hX : va_X b L xs s s.heap) (hbl : b < s.heap.size) (hw : Pw s s E z h H locs) (hM : Mo s s z0 z (zLim z0)) (hl : lv_has ls 4 [(0, .ref b), (1, .ref v1), (2, .ref v2), (3, .int v3)]) (hf : f_law_1061 n z0 L xs v1 v2 z h v3 = some (h9, z9)) (hk : ∀ (H : Heap) (locs : List Loc) (ls : Array Slot), Pw s s E z9 h9 H locs → Mo s s z0 z9 (zLim z0) → lv_has ls 4 [(0, .ref b), (1, .ref v1), (2, .ref v2), (3, .int v3)] → W p l e (rmA 2048 84000 z0 (zLim z0)) s m #[Value.ref b] below meth c H locs (z9.sz - z0.sz) (z9.sl - z0.sl) (lw_Z below #[Value.ref b] s) (F0 m 1395 ls [])) : W p l e (rmA 2048 84000 z0 (zLim z0)) s m #[Value.ref b] below meth c H locs (z.sz - z0.sz) (z.sl - z0.sl) (lw_Z below #[Value.ref b] s) (F0 m 1061 ls []) := by
  have hx := B.1
  have hb := B.2.1
  unfold f_law_1061 at hf
  refine lv_aload_n hx hb dL_law_1061 rfl (lv_at hl 1 rfl) ?_
  refine lv_aload_n hx hb dL_law_1062 rfl (lv_at hl 0 rfl) ?_
  refine lv_iload_n hx hb dL_law_1063 rfl (lv_at hl 3 rfl) ?_
  refine lv_iconst (v := 1) hx hb dL_law_1064 (by decide) ?_
  refine lv_iadd hx hb dL_law_1065 ?_
  obtain ⟨x1, e, hf⟩ := ob hf
  refine q_sc e hx hb hX hbl hw dL_law_1066 ?_
  obtain ⟨x2, e, hf⟩ := ob hf
  refine q_callV (As := [.int x1]) (rest := []) (st1 := [.int x2]) (c_X11_rounds G e) B hw hM.hz hM.hc0 (k_X11_rounds e) (by decide) (ci := 11) rfl rfl my_X11_rounds mv_X11_rounds tw_5_195 ⟨Nat.le_of_ble_eq_true rfl, Nat.le_of_ble_eq_true rfl⟩ hM.hcs rfl hl.1 rfl rfl (Nat.le_of_ble_eq_true rfl) dL_law_1067 (fun H locs hw => ?_)
  refine lv_aload_n hx hb dL_law_1070 rfl (lv_at hl 2 rfl) ?_
  refine lv_aload_n hx hb dL_law_1071 rfl (lv_at hl 0 rfl) ?_
  refine lv_iload_n hx hb dL_law_1072 rfl (lv_at hl 3 rfl) ?_
  refine lv_iconst (v := 1) hx hb dL_law_1073 (by decide) ?_
  refine lv_iadd hx hb dL_law_1074 ?_
  obtain ⟨x3, e, hf⟩ := ob hf
  refine q_sc e hx hb hX hbl hw dL_law_1075 ?_
  obtain ⟨⟨x4, h5⟩, e, hf⟩ := ob hf
  refine q_callV (As := [.int x3]) (rest := [.int x2]) (st1 := [.int x4, .int x2]) (c_X12_rounds G e) B hw hM.hz hM.hc0 (k_X12_rounds e) (by decide) (ci := 12) rfl rfl my_X12_rounds mv_X12_rounds tw_8_153 ⟨Nat.le_of_ble_eq_true rfl, Nat.le_of_ble_eq_true rfl⟩ hM.hcs rfl hl.1 rfl rfl (Nat.le_of_ble_eq_true rfl) dL_law_1076 (fun H locs hw => ?_)
  refine lv_icmp_eq (tgt := 1395) hx hb dL_law_1079 (by decide) (fun c6 => ?_) (fun c6 => ?_)
  · have hf := (if_pos c6).symm.trans hf
    obtain ⟨rfl, rfl⟩ := so2 hf
    exact hk _ _ _ hw hM (lv_sub hl [0, 1, 2, 3] rfl)
  · have hf := (if_neg c6).symm.trans hf
    refine lv_iconst (v := 0) hx hb dL_law_1082 (by decide) ?_
    cases hf
def f_law_1084 (n : Nat) (z0 : Sh) (L : Nat) (xs : Nat → Int32) (v1 v2 : Nat) (z : Sh) (h : Hp) (v3 : Int32) : Option (Hp × Sh) :=
  (sc L xs (v3 + 1)).bind fun x1 =>
  (f_X11_spark n z h v1 x1).bind fun x2 =>
  (sc L xs (v3 + 1)).bind fun x3 =>
  (f_X12_spark n z h v2 x3).bind fun (x4, h5) =>
  if x2 = x4 then
    some (h5, z)
  else
    none
set_option maxHeartbeats 4000000 in
theorem w_law_1084 {p : Program} {l : Launch} {e : Env} {s : State} {m : MethodId} {below : List Frame} {meth : Method} {c : Code} {E : Ev} {b L : Nat} {xs : Nat → Int32} {n : Nat} {z0 : Sh} {v1 v2 : Nat} {z : Sh} {h : Hp} {v3 : Int32} {h9 : Hp} {z9 : Sh} {H : Heap} {locs : List Loc} {ls : Array Slot} (G : Gl s E) (B : Bd p s s E m c cL_law 4 RL) (hX : va_X b L xs s s.heap) (hbl : b < s.heap.size) (hw : Pw s s E z h H locs) (hM : Mo s s z0 z (zLim z0)) (hl : lv_has ls 4 [(0, .ref b), (1, .ref v1), (2, .ref v2), (3, .int v3)]) (hf : f_law_1084 n z0 L xs v1 v2 z h v3 = some (h9, z9)) (hk : ∀ (H : Heap) (locs : List Loc) (ls : Array Slot), Pw s s E z9 h9 H locs → Mo s s z0 z9 (zLim z0) → lv_has ls 4 [(0, .ref b), (1, .ref v1), (2, .ref v2), (3, .int v3)] → W p l e (rmA 2048 84000 z0 (zLim z0)) s m #[Value.ref b] below meth c H locs (z9.sz - z0.sz) (z9.sl - z0.sl) (lw_Z below #[Value.ref b] s) (F0 m 1395 ls [])) : W p l e (rmA 2048 84000 z0 (zLim z0)) s m #[Value.ref b] below meth c H locs (z.sz - z0.sz) (z.sl - z0.sl) (lw_Z below #[Value.ref b] s) (F0 m 1084 ls []) := by
  have hx := B.1
  have hb := B.2.1
  unfold f_law_1084 at hf
  refine lv_aload_n hx hb dL_law_1084 rfl (lv_at hl 1 rfl) ?_
  refine lv_aload_n hx hb dL_law_1085 rfl (lv_at hl 0 rfl) ?_
  refine lv_iload_n hx hb dL_law_1086 rfl (lv_at hl 3 rfl) ?_
  refine lv_iconst (v := 1) hx hb dL_law_1087 (by decide) ?_
  refine lv_iadd hx hb dL_law_1088 ?_
  obtain ⟨x1, e, hf⟩ := ob hf
  refine q_sc e hx hb hX hbl hw dL_law_1089 ?_
  obtain ⟨x2, e, hf⟩ := ob hf
  refine q_callV (As := [.int x1]) (rest := []) (st1 := [.int x2]) (c_X11_spark G e) B hw hM.hz hM.hc0 (k_X11_spark e) (by decide) (ci := 11) rfl rfl my_X11_spark mv_X11_spark tw_5_203 ⟨Nat.le_of_ble_eq_true rfl, Nat.le_of_ble_eq_true rfl⟩ hM.hcs rfl hl.1 rfl rfl (Nat.le_of_ble_eq_true rfl) dL_law_1090 (fun H locs hw => ?_)
  refine lv_aload_n hx hb dL_law_1093 rfl (lv_at hl 2 rfl) ?_
  refine lv_aload_n hx hb dL_law_1094 rfl (lv_at hl 0 rfl) ?_
  refine lv_iload_n hx hb dL_law_1095 rfl (lv_at hl 3 rfl) ?_
  refine lv_iconst (v := 1) hx hb dL_law_1096 (by decide) ?_
  refine lv_iadd hx hb dL_law_1097 ?_
  obtain ⟨x3, e, hf⟩ := ob hf
  refine q_sc e hx hb hX hbl hw dL_law_1098 ?_
  obtain ⟨⟨x4, h5⟩, e, hf⟩ := ob hf
  refine q_callV (As := [.int x3]) (rest := [.int x2]) (st1 := [.int x4, .int x2]) (c_X12_spark G e) B hw hM.hz hM.hc0 (k_X12_spark e) (by decide) (ci := 12) rfl rfl my_X12_spark mv_X12_spark tw_8_157 ⟨Nat.le_of_ble_eq_true rfl, Nat.le_of_ble_eq_true rfl⟩ hM.hcs rfl hl.1 rfl rfl (Nat.le_of_ble_eq_true rfl) dL_law_1099 (fun H locs hw => ?_)
  refine lv_icmp_eq (tgt := 1395) hx hb dL_law_1102 (by decide) (fun c6 => ?_) (fun c6 => ?_)
  · have hf := (if_pos c6).symm.trans hf
    obtain ⟨rfl, rfl⟩ := so2 hf
    exact hk _ _ _ hw hM (lv_sub hl [0, 1, 2, 3] rfl)
  · have hf := (if_neg c6).symm.trans hf
    refine lv_iconst (v := 0) hx hb dL_law_1105 (by decide) ?_
    cases hf
def f_law_1107 (n : Nat) (z0 : Sh) (L : Nat) (xs : Nat → Int32) (v1 v2 : Nat) (z : Sh) (h : Hp) (v3 : Int32) : Option (Hp × Sh) :=
  (sc L xs (v3 + 1)).bind fun x1 =>
  (sc L xs (v3 + 2)).bind fun x2 =>
  (f_X11_calm n z h v1 x1 x2).bind fun x3 =>
  (sc L xs (v3 + 1)).bind fun x4 =>
  (sc L xs (v3 + 2)).bind fun x5 =>
  (f_X12_calm n z h v2 x4 x5).bind fun (x6, h7) =>
  if x3 = x6 then
    some (h7, z)
  else
    none
set_option maxHeartbeats 4000000 in
theorem w_law_1107 {p : Program} {l : Launch} {e : Env} {s : State} {m : MethodId} {below : List Frame} {meth : Method} {c : Code} {E : Ev} {b L : Nat} {xs : Nat → Int32} {n : Nat} {z0 : Sh} {v1 v2 : Nat} {z : Sh} {h : Hp} {v3 : Int32} {h9 : Hp} {z9 : Sh} {H : Heap} {locs : List Loc} {ls : Array Slot} (G : Gl s E) (B : Bd p s s E m c cL_law 4 RL) (hX : va_X b L xs s s.heap) (hbl : b < s.heap.size) (hw : Pw s s E z h H locs) (hM : Mo s s z0 z (zLim z0)) (hl : lv_has ls 4 [(0, .ref b), (1, .ref v1), (2, .ref v2), (3, .int v3)]) (hf : f_law_1107 n z0 L xs v1 v2 z h v3 = some (h9, z9)) (hk : ∀ (H : Heap) (locs : List Loc) (ls : Array Slot), Pw s s E z9 h9 H locs → Mo s s z0 z9 (zLim z0) → lv_has ls 4 [(0, .ref b), (1, .ref v1), (2, .ref v2), (3, .int v3)] → W p l e (rmA 2048 84000 z0 (zLim z0)) s m #[Value.ref b] below meth c H locs (z9.sz - z0.sz) (z9.sl - z0.sl) (lw_Z below #[Value.ref b] s) (F0 m 1395 ls [])) : W p l e (rmA 2048 84000 z0 (zLim z0)) s m #[Value.ref b] below meth c H locs (z.sz - z0.sz) (z.sl - z0.sl) (lw_Z below #[Value.ref b] s) (F0 m 1107 ls []) := by
  have hx := B.1
  have hb := B.2.1
  unfold f_law_1107 at hf
  refine lv_aload_n hx hb dL_law_1107 rfl (lv_at hl 1 rfl) ?_
  refine lv_aload_n hx hb dL_law_1108 rfl (lv_at hl 0 rfl) ?_
  refine lv_iload_n hx hb dL_law_1109 rfl (lv_at hl 3 rfl) ?_
  refine lv_iconst (v := 1) hx hb dL_law_1110 (by decide) ?_
  refine lv_iadd hx hb dL_law_1111 ?_
  obtain ⟨x1, e, hf⟩ := ob hf
  refine q_sc e hx hb hX hbl hw dL_law_1112 ?_
  refine lv_aload_n hx hb dL_law_1113 rfl (lv_at hl 0 rfl) ?_
  refine lv_iload_n hx hb dL_law_1114 rfl (lv_at hl 3 rfl) ?_
  refine lv_iconst (v := 2) hx hb dL_law_1115 (by decide) ?_
  refine lv_iadd hx hb dL_law_1116 ?_
  obtain ⟨x2, e, hf⟩ := ob hf
  refine q_sc e hx hb hX hbl hw dL_law_1117 ?_
  obtain ⟨x3, e, hf⟩ := ob hf
  refine q_callV (As := [.int x1, .int x2]) (rest := []) (st1 := [.int x3]) (c_X11_calm G e) B hw hM.hz hM.hc0 (k_X11_calm e) (by decide) (ci := 11) rfl rfl my_X11_calm mv_X11_calm tw_5_209 ⟨Nat.le_of_ble_eq_true rfl, Nat.le_of_ble_eq_true rfl⟩ hM.hcs rfl hl.1 rfl rfl (Nat.le_of_ble_eq_true rfl) dL_law_1118 (fun H locs hw => ?_)
  refine lv_aload_n hx hb dL_law_1121 rfl (lv_at hl 2 rfl) ?_
  refine lv_aload_n hx hb dL_law_1122 rfl (lv_at hl 0 rfl) ?_
  refine lv_iload_n hx hb dL_law_1123 rfl (lv_at hl 3 rfl) ?_
  refine lv_iconst (v := 1) hx hb dL_law_1124 (by decide) ?_
  refine lv_iadd hx hb dL_law_1125 ?_
  obtain ⟨x4, e, hf⟩ := ob hf
  refine q_sc e hx hb hX hbl hw dL_law_1126 ?_
  refine lv_aload_n hx hb dL_law_1127 rfl (lv_at hl 0 rfl) ?_
  refine lv_iload_n hx hb dL_law_1128 rfl (lv_at hl 3 rfl) ?_
  refine lv_iconst (v := 2) hx hb dL_law_1129 (by decide) ?_
  refine lv_iadd hx hb dL_law_1130 ?_
  obtain ⟨x5, e, hf⟩ := ob hf
  refine q_sc e hx hb hX hbl hw dL_law_1131 ?_
  obtain ⟨⟨x6, h7⟩, e, hf⟩ := ob hf
  refine q_callV (As := [.int x4, .int x5]) (rest := [.int x3]) (st1 := [.int x6, .int x3]) (c_X12_calm G e) B hw hM.hz hM.hc0 (k_X12_calm e) (by decide) (ci := 12) rfl rfl my_X12_calm mv_X12_calm tw_8_162 ⟨Nat.le_of_ble_eq_true rfl, Nat.le_of_ble_eq_true rfl⟩ hM.hcs rfl hl.1 rfl rfl (Nat.le_of_ble_eq_true rfl) dL_law_1132 (fun H locs hw => ?_)
  refine lv_icmp_eq (tgt := 1395) hx hb dL_law_1135 (by decide) (fun c8 => ?_) (fun c8 => ?_)
  · have hf := (if_pos c8).symm.trans hf
    obtain ⟨rfl, rfl⟩ := so2 hf
    exact hk _ _ _ hw hM (lv_sub hl [0, 1, 2, 3] rfl)
  · have hf := (if_neg c8).symm.trans hf
    refine lv_iconst (v := 0) hx hb dL_law_1138 (by decide) ?_
    cases hf
def f_law_1140 (n : Nat) (z0 : Sh) (L : Nat) (xs : Nat → Int32) (v1 v2 : Nat) (z : Sh) (h : Hp) (v3 : Int32) : Option (Hp × Sh) :=
  (f_X11_rests n z h v1).bind fun x1 =>
  (f_X12_rests n z h v2).bind fun (x2, h3) =>
  if x1 = x2 then
    some (h3, z)
  else
    none
set_option maxHeartbeats 4000000 in
theorem w_law_1140 {p : Program} {l : Launch} {e : Env} {s : State} {m : MethodId} {below : List Frame} {meth : Method} {c : Code} {E : Ev} {b L : Nat} {xs : Nat → Int32} {n : Nat} {z0 : Sh} {v1 v2 : Nat} {z : Sh} {h : Hp} {v3 : Int32} {h9 : Hp} {z9 : Sh} {H : Heap} {locs : List Loc} {ls : Array Slot} (G : Gl s E) (B : Bd p s s E m c cL_law 4 RL) (hX : va_X b L xs s s.heap) (hbl : b < s.heap.size) (hw : Pw s s E z h H locs) (hM : Mo s s z0 z (zLim z0)) (hl : lv_has ls 4 [(0, .ref b), (1, .ref v1), (2, .ref v2), (3, .int v3)]) (hf : f_law_1140 n z0 L xs v1 v2 z h v3 = some (h9, z9)) (hk : ∀ (H : Heap) (locs : List Loc) (ls : Array Slot), Pw s s E z9 h9 H locs → Mo s s z0 z9 (zLim z0) → lv_has ls 4 [(0, .ref b), (1, .ref v1), (2, .ref v2), (3, .int v3)] → W p l e (rmA 2048 84000 z0 (zLim z0)) s m #[Value.ref b] below meth c H locs (z9.sz - z0.sz) (z9.sl - z0.sl) (lw_Z below #[Value.ref b] s) (F0 m 1395 ls [])) : W p l e (rmA 2048 84000 z0 (zLim z0)) s m #[Value.ref b] below meth c H locs (z.sz - z0.sz) (z.sl - z0.sl) (lw_Z below #[Value.ref b] s) (F0 m 1140 ls []) := by
  have hx := B.1
  have hb := B.2.1
  unfold f_law_1140 at hf
  refine lv_aload_n hx hb dL_law_1140 rfl (lv_at hl 1 rfl) ?_
  obtain ⟨x1, e, hf⟩ := ob hf
  refine q_callV (As := []) (rest := []) (st1 := [.int x1]) (c_X11_rests G e) B hw hM.hz hM.hc0 (k_X11_rests e) (by decide) (ci := 11) rfl rfl my_X11_rests mv_X11_rests tw_5_213 ⟨Nat.le_of_ble_eq_true rfl, Nat.le_of_ble_eq_true rfl⟩ hM.hcs rfl hl.1 rfl rfl (Nat.le_of_ble_eq_true rfl) dL_law_1141 (fun H locs hw => ?_)
  refine lv_aload_n hx hb dL_law_1144 rfl (lv_at hl 2 rfl) ?_
  obtain ⟨⟨x2, h3⟩, e, hf⟩ := ob hf
  refine q_callV (As := []) (rest := [.int x1]) (st1 := [.int x2, .int x1]) (c_X12_rests G e) B hw hM.hz hM.hc0 (k_X12_rests e) (by decide) (ci := 12) rfl rfl my_X12_rests mv_X12_rests tw_8_166 ⟨Nat.le_of_ble_eq_true rfl, Nat.le_of_ble_eq_true rfl⟩ hM.hcs rfl hl.1 rfl rfl (Nat.le_of_ble_eq_true rfl) dL_law_1145 (fun H locs hw => ?_)
  refine lv_icmp_eq (tgt := 1395) hx hb dL_law_1148 (by decide) (fun c4 => ?_) (fun c4 => ?_)
  · have hf := (if_pos c4).symm.trans hf
    obtain ⟨rfl, rfl⟩ := so2 hf
    exact hk _ _ _ hw hM (lv_sub hl [0, 1, 2, 3] rfl)
  · have hf := (if_neg c4).symm.trans hf
    refine lv_iconst (v := 0) hx hb dL_law_1151 (by decide) ?_
    cases hf
def f_law_1153 (n : Nat) (z0 : Sh) (L : Nat) (xs : Nat → Int32) (v1 v2 : Nat) (z : Sh) (h : Hp) (v3 : Int32) : Option (Hp × Sh) :=
  (sc L xs (v3 + 1)).bind fun x1 =>
  (f_X11_rest n z h v1 x1).bind fun x2 =>
  (sc L xs (v3 + 1)).bind fun x3 =>
  (f_X12_rest n z h v2 x3).bind fun (x4, h5) =>
  if x2 = x4 then
    some (h5, z)
  else
    none
set_option maxHeartbeats 4000000 in
theorem w_law_1153 {p : Program} {l : Launch} {e : Env} {s : State} {m : MethodId} {below : List Frame} {meth : Method} {c : Code} {E : Ev} {b L : Nat} {xs : Nat → Int32} {n : Nat} {z0 : Sh} {v1 v2 : Nat} {z : Sh} {h : Hp} {v3 : Int32} {h9 : Hp} {z9 : Sh} {H : Heap} {locs : List Loc} {ls : Array Slot} (G : Gl s E) (B : Bd p s s E m c cL_law 4 RL) (hX : va_X b L xs s s.heap) (hbl : b < s.heap.size) (hw : Pw s s E z h H locs) (hM : Mo s s z0 z (zLim z0)) (hl : lv_has ls 4 [(0, .ref b), (1, .ref v1), (2, .ref v2), (3, .int v3)]) (hf : f_law_1153 n z0 L xs v1 v2 z h v3 = some (h9, z9)) (hk : ∀ (H : Heap) (locs : List Loc) (ls : Array Slot), Pw s s E z9 h9 H locs → Mo s s z0 z9 (zLim z0) → lv_has ls 4 [(0, .ref b), (1, .ref v1), (2, .ref v2), (3, .int v3)] → W p l e (rmA 2048 84000 z0 (zLim z0)) s m #[Value.ref b] below meth c H locs (z9.sz - z0.sz) (z9.sl - z0.sl) (lw_Z below #[Value.ref b] s) (F0 m 1395 ls [])) : W p l e (rmA 2048 84000 z0 (zLim z0)) s m #[Value.ref b] below meth c H locs (z.sz - z0.sz) (z.sl - z0.sl) (lw_Z below #[Value.ref b] s) (F0 m 1153 ls []) := by
  have hx := B.1
  have hb := B.2.1
  unfold f_law_1153 at hf
  refine lv_aload_n hx hb dL_law_1153 rfl (lv_at hl 1 rfl) ?_
  refine lv_aload_n hx hb dL_law_1154 rfl (lv_at hl 0 rfl) ?_
  refine lv_iload_n hx hb dL_law_1155 rfl (lv_at hl 3 rfl) ?_
  refine lv_iconst (v := 1) hx hb dL_law_1156 (by decide) ?_
  refine lv_iadd hx hb dL_law_1157 ?_
  obtain ⟨x1, e, hf⟩ := ob hf
  refine q_sc e hx hb hX hbl hw dL_law_1158 ?_
  obtain ⟨x2, e, hf⟩ := ob hf
  refine q_callV (As := [.int x1]) (rest := []) (st1 := [.int x2]) (c_X11_rest G e) B hw hM.hz hM.hc0 (k_X11_rest e) (by decide) (ci := 11) rfl rfl my_X11_rest mv_X11_rest tw_5_221 ⟨Nat.le_of_ble_eq_true rfl, Nat.le_of_ble_eq_true rfl⟩ hM.hcs rfl hl.1 rfl rfl (Nat.le_of_ble_eq_true rfl) dL_law_1159 (fun H locs hw => ?_)
  refine lv_aload_n hx hb dL_law_1162 rfl (lv_at hl 2 rfl) ?_
  refine lv_aload_n hx hb dL_law_1163 rfl (lv_at hl 0 rfl) ?_
  refine lv_iload_n hx hb dL_law_1164 rfl (lv_at hl 3 rfl) ?_
  refine lv_iconst (v := 1) hx hb dL_law_1165 (by decide) ?_
  refine lv_iadd hx hb dL_law_1166 ?_
  obtain ⟨x3, e, hf⟩ := ob hf
  refine q_sc e hx hb hX hbl hw dL_law_1167 ?_
  obtain ⟨⟨x4, h5⟩, e, hf⟩ := ob hf
  refine q_callV (As := [.int x3]) (rest := [.int x2]) (st1 := [.int x4, .int x2]) (c_X12_rest G e) B hw hM.hz hM.hc0 (k_X12_rest e) (by decide) (ci := 12) rfl rfl my_X12_rest mv_X12_rest tw_8_174 ⟨Nat.le_of_ble_eq_true rfl, Nat.le_of_ble_eq_true rfl⟩ hM.hcs rfl hl.1 rfl rfl (Nat.le_of_ble_eq_true rfl) dL_law_1168 (fun H locs hw => ?_)
  refine lv_icmp_eq (tgt := 1395) hx hb dL_law_1171 (by decide) (fun c6 => ?_) (fun c6 => ?_)
  · have hf := (if_pos c6).symm.trans hf
    obtain ⟨rfl, rfl⟩ := so2 hf
    exact hk _ _ _ hw hM (lv_sub hl [0, 1, 2, 3] rfl)
  · have hf := (if_neg c6).symm.trans hf
    refine lv_iconst (v := 0) hx hb dL_law_1174 (by decide) ?_
    cases hf
def f_law_1176 (n : Nat) (z0 : Sh) (L : Nat) (xs : Nat → Int32) (v1 v2 : Nat) (z : Sh) (h : Hp) (v3 : Int32) : Option (Hp × Sh) :=
  (sc L xs (v3 + 1)).bind fun x1 =>
  (sc L xs (v3 + 2)).bind fun x2 =>
  (sc L xs (v3 + 3)).bind fun x3 =>
  (f_X11_numbers n z h v1 x1 x2 x3).bind fun (x4, h5) =>
  (sc L xs (v3 + 1)).bind fun x6 =>
  (sc L xs (v3 + 2)).bind fun x7 =>
  (sc L xs (v3 + 3)).bind fun x8 =>
  (f_X12_numbers n z h5 v2 x6 x7 x8).bind fun (x9, h10) =>
  if x4 = x9 then
    some (h10, z)
  else
    none
set_option maxHeartbeats 4000000 in
theorem w_law_1176 {p : Program} {l : Launch} {e : Env} {s : State} {m : MethodId} {below : List Frame} {meth : Method} {c : Code} {E : Ev} {b L : Nat} {xs : Nat → Int32} {n : Nat} {z0 : Sh} {v1 v2 : Nat} {z : Sh} {h : Hp} {v3 : Int32} {h9 : Hp} {z9 : Sh} {H : Heap} {locs : List Loc} {ls : Array Slot} (G : Gl s E) (B : Bd p s s E m c cL_law 4 RL) (hX : va_X b L xs s s.heap) (hbl : b < s.heap.size) (hw : Pw s s E z h H locs) (hM : Mo s s z0 z (zLim z0)) (hl : lv_has ls 4 [(0, .ref b), (1, .ref v1), (2, .ref v2), (3, .int v3)]) (hf : f_law_1176 n z0 L xs v1 v2 z h v3 = some (h9, z9)) (hk : ∀ (H : Heap) (locs : List Loc) (ls : Array Slot), Pw s s E z9 h9 H locs → Mo s s z0 z9 (zLim z0) → lv_has ls 4 [(0, .ref b), (1, .ref v1), (2, .ref v2), (3, .int v3)] → W p l e (rmA 2048 84000 z0 (zLim z0)) s m #[Value.ref b] below meth c H locs (z9.sz - z0.sz) (z9.sl - z0.sl) (lw_Z below #[Value.ref b] s) (F0 m 1395 ls [])) : W p l e (rmA 2048 84000 z0 (zLim z0)) s m #[Value.ref b] below meth c H locs (z.sz - z0.sz) (z.sl - z0.sl) (lw_Z below #[Value.ref b] s) (F0 m 1176 ls []) := by
  have hx := B.1
  have hb := B.2.1
  unfold f_law_1176 at hf
  refine lv_aload_n hx hb dL_law_1176 rfl (lv_at hl 1 rfl) ?_
  refine lv_aload_n hx hb dL_law_1177 rfl (lv_at hl 0 rfl) ?_
  refine lv_iload_n hx hb dL_law_1178 rfl (lv_at hl 3 rfl) ?_
  refine lv_iconst (v := 1) hx hb dL_law_1179 (by decide) ?_
  refine lv_iadd hx hb dL_law_1180 ?_
  obtain ⟨x1, e, hf⟩ := ob hf
  refine q_sc e hx hb hX hbl hw dL_law_1181 ?_
  refine lv_aload_n hx hb dL_law_1182 rfl (lv_at hl 0 rfl) ?_
  refine lv_iload_n hx hb dL_law_1183 rfl (lv_at hl 3 rfl) ?_
  refine lv_iconst (v := 2) hx hb dL_law_1184 (by decide) ?_
  refine lv_iadd hx hb dL_law_1185 ?_
  obtain ⟨x2, e, hf⟩ := ob hf
  refine q_sc e hx hb hX hbl hw dL_law_1186 ?_
  refine lv_aload_n hx hb dL_law_1187 rfl (lv_at hl 0 rfl) ?_
  refine lv_iload_n hx hb dL_law_1188 rfl (lv_at hl 3 rfl) ?_
  refine lv_iconst (v := 3) hx hb dL_law_1189 (by decide) ?_
  refine lv_iadd hx hb dL_law_1190 ?_
  obtain ⟨x3, e, hf⟩ := ob hf
  refine q_sc e hx hb hX hbl hw dL_law_1191 ?_
  obtain ⟨⟨x4, h5⟩, e, hf⟩ := ob hf
  refine q_callV (As := [.int x1, .int x2, .int x3]) (rest := []) (st1 := [.int x4]) (c_X11_numbers G e) B hw hM.hz hM.hc0 (k_X11_numbers e) (by decide) (ci := 11) rfl rfl my_X11_numbers mv_X11_numbers tw_5_225 ⟨Nat.le_of_ble_eq_true rfl, Nat.le_of_ble_eq_true rfl⟩ hM.hcs rfl hl.1 rfl rfl (Nat.le_of_ble_eq_true rfl) dL_law_1192 (fun H locs hw => ?_)
  refine lv_aload_n hx hb dL_law_1195 rfl (lv_at hl 2 rfl) ?_
  refine lv_aload_n hx hb dL_law_1196 rfl (lv_at hl 0 rfl) ?_
  refine lv_iload_n hx hb dL_law_1197 rfl (lv_at hl 3 rfl) ?_
  refine lv_iconst (v := 1) hx hb dL_law_1198 (by decide) ?_
  refine lv_iadd hx hb dL_law_1199 ?_
  obtain ⟨x6, e, hf⟩ := ob hf
  refine q_sc e hx hb hX hbl hw dL_law_1200 ?_
  refine lv_aload_n hx hb dL_law_1201 rfl (lv_at hl 0 rfl) ?_
  refine lv_iload_n hx hb dL_law_1202 rfl (lv_at hl 3 rfl) ?_
  refine lv_iconst (v := 2) hx hb dL_law_1203 (by decide) ?_
  refine lv_iadd hx hb dL_law_1204 ?_
  obtain ⟨x7, e, hf⟩ := ob hf
  refine q_sc e hx hb hX hbl hw dL_law_1205 ?_
  refine lv_aload_n hx hb dL_law_1206 rfl (lv_at hl 0 rfl) ?_
  refine lv_iload_n hx hb dL_law_1207 rfl (lv_at hl 3 rfl) ?_
  refine lv_iconst (v := 3) hx hb dL_law_1208 (by decide) ?_
  refine lv_iadd hx hb dL_law_1209 ?_
  obtain ⟨x8, e, hf⟩ := ob hf
  refine q_sc e hx hb hX hbl hw dL_law_1210 ?_
  obtain ⟨⟨x9, h10⟩, e, hf⟩ := ob hf
  refine q_callV (As := [.int x6, .int x7, .int x8]) (rest := [.int x4]) (st1 := [.int x9, .int x4]) (c_X12_numbers G e) B hw hM.hz hM.hc0 (k_X12_numbers e) (by decide) (ci := 12) rfl rfl my_X12_numbers mv_X12_numbers tw_8_178 ⟨Nat.le_of_ble_eq_true rfl, Nat.le_of_ble_eq_true rfl⟩ hM.hcs rfl hl.1 rfl rfl (Nat.le_of_ble_eq_true rfl) dL_law_1211 (fun H locs hw => ?_)
  refine lv_icmp_eq (tgt := 1395) hx hb dL_law_1214 (by decide) (fun c11 => ?_) (fun c11 => ?_)
  · have hf := (if_pos c11).symm.trans hf
    obtain ⟨rfl, rfl⟩ := so2 hf
    exact hk _ _ _ hw hM (lv_sub hl [0, 1, 2, 3] rfl)
  · have hf := (if_neg c11).symm.trans hf
    refine lv_iconst (v := 0) hx hb dL_law_1217 (by decide) ?_
    cases hf
def f_law_1219 (n : Nat) (z0 : Sh) (L : Nat) (xs : Nat → Int32) (v1 v2 : Nat) (z : Sh) (h : Hp) (v3 : Int32) : Option (Hp × Sh) :=
  (sc L xs (v3 + 1)).bind fun x1 =>
  (sc L xs (v3 + 2)).bind fun x2 =>
  (sc L xs (v3 + 3)).bind fun x3 =>
  (sc L xs (v3 + 4)).bind fun x4 =>
  (f_X11_write z h v1 x1 x2 (((Int32.toInt64 x3) <<< (Int32.toInt64 32 &&& 63)) ||| ((Int32.toInt64 x4) &&& 4294967295))).bind fun (x5, h6) =>
  (sc L xs (v3 + 1)).bind fun x7 =>
  (sc L xs (v3 + 2)).bind fun x8 =>
  (sc L xs (v3 + 3)).bind fun x9 =>
  (sc L xs (v3 + 4)).bind fun x10 =>
  (f_X12_write z h6 v2 x7 x8 (((Int32.toInt64 x9) <<< (Int32.toInt64 32 &&& 63)) ||| ((Int32.toInt64 x10) &&& 4294967295))).bind fun (x11, h12) =>
  if (lg_cmp x5 x11) = 0 then
    some (h12, z)
  else
    none
set_option maxHeartbeats 4000000 in
theorem w_law_1219 {p : Program} {l : Launch} {e : Env} {s : State} {m : MethodId} {below : List Frame} {meth : Method} {c : Code} {E : Ev} {b L : Nat} {xs : Nat → Int32} {n : Nat} {z0 : Sh} {v1 v2 : Nat} {z : Sh} {h : Hp} {v3 : Int32} {h9 : Hp} {z9 : Sh} {H : Heap} {locs : List Loc} {ls : Array Slot} (G : Gl s E) (B : Bd p s s E m c cL_law 4 RL) (hX : va_X b L xs s s.heap) (hbl : b < s.heap.size) (hw : Pw s s E z h H locs) (hM : Mo s s z0 z (zLim z0)) (hl : lv_has ls 4 [(0, .ref b), (1, .ref v1), (2, .ref v2), (3, .int v3)]) (hf : f_law_1219 n z0 L xs v1 v2 z h v3 = some (h9, z9)) (hk : ∀ (H : Heap) (locs : List Loc) (ls : Array Slot), Pw s s E z9 h9 H locs → Mo s s z0 z9 (zLim z0) → lv_has ls 4 [(0, .ref b), (1, .ref v1), (2, .ref v2), (3, .int v3)] → W p l e (rmA 2048 84000 z0 (zLim z0)) s m #[Value.ref b] below meth c H locs (z9.sz - z0.sz) (z9.sl - z0.sl) (lw_Z below #[Value.ref b] s) (F0 m 1395 ls [])) : W p l e (rmA 2048 84000 z0 (zLim z0)) s m #[Value.ref b] below meth c H locs (z.sz - z0.sz) (z.sl - z0.sl) (lw_Z below #[Value.ref b] s) (F0 m 1219 ls []) := by
  have hx := B.1
  have hb := B.2.1
  unfold f_law_1219 at hf
  refine lv_aload_n hx hb dL_law_1219 rfl (lv_at hl 1 rfl) ?_
  refine lv_aload_n hx hb dL_law_1220 rfl (lv_at hl 0 rfl) ?_
  refine lv_iload_n hx hb dL_law_1221 rfl (lv_at hl 3 rfl) ?_
  refine lv_iconst (v := 1) hx hb dL_law_1222 (by decide) ?_
  refine lv_iadd hx hb dL_law_1223 ?_
  obtain ⟨x1, e, hf⟩ := ob hf
  refine q_sc e hx hb hX hbl hw dL_law_1224 ?_
  refine lv_aload_n hx hb dL_law_1225 rfl (lv_at hl 0 rfl) ?_
  refine lv_iload_n hx hb dL_law_1226 rfl (lv_at hl 3 rfl) ?_
  refine lv_iconst (v := 2) hx hb dL_law_1227 (by decide) ?_
  refine lv_iadd hx hb dL_law_1228 ?_
  obtain ⟨x2, e, hf⟩ := ob hf
  refine q_sc e hx hb hX hbl hw dL_law_1229 ?_
  refine lv_aload_n hx hb dL_law_1230 rfl (lv_at hl 0 rfl) ?_
  refine lv_iload_n hx hb dL_law_1231 rfl (lv_at hl 3 rfl) ?_
  refine lv_iconst (v := 3) hx hb dL_law_1232 (by decide) ?_
  refine lv_iadd hx hb dL_law_1233 ?_
  obtain ⟨x3, e, hf⟩ := ob hf
  refine q_sc e hx hb hX hbl hw dL_law_1234 ?_
  refine lv_i2l (v := (Int32.toInt64 x3)) hx hb dL_law_1235 rfl ?_
  refine lv_bipush (v := 32) hx hb dL_law_1236 (by decide) ?_
  refine lv_lshl (v := ((Int32.toInt64 x3) <<< (Int32.toInt64 32 &&& 63))) hx hb dL_law_1238 rfl ?_
  refine lv_aload_n hx hb dL_law_1239 rfl (lv_at hl 0 rfl) ?_
  refine lv_iload_n hx hb dL_law_1240 rfl (lv_at hl 3 rfl) ?_
  refine lv_iconst (v := 4) hx hb dL_law_1241 (by decide) ?_
  refine lv_iadd hx hb dL_law_1242 ?_
  obtain ⟨x4, e, hf⟩ := ob hf
  refine q_sc e hx hb hX hbl hw dL_law_1243 ?_
  refine lv_i2l (v := (Int32.toInt64 x4)) hx hb dL_law_1244 rfl ?_
  refine lv_ldc2 hx hb B.2.2.2.1 (B.w tw_8_210 rfl) dL_law_1245 ?_
  refine lv_land hx hb dL_law_1248 ?_
  refine lv_lor hx hb dL_law_1249 ?_
  obtain ⟨⟨x5, h6⟩, e, hf⟩ := ob hf
  refine q_callV (As := [.int x1, .int x2, .long (((Int32.toInt64 x3) <<< (Int32.toInt64 32 &&& 63)) ||| ((Int32.toInt64 x4) &&& 4294967295))]) (rest := []) (st1 := [.long x5]) (c_X11_write G e) B hw hM.hz hM.hc0 (k_X11_write e) (by decide) (ci := 11) rfl rfl my_X11_write mv_X11_write tw_5_236 ⟨Nat.le_of_ble_eq_true rfl, Nat.le_of_ble_eq_true rfl⟩ hM.hcs rfl hl.1 rfl rfl (Nat.le_of_ble_eq_true rfl) dL_law_1250 (fun H locs hw => ?_)
  refine lv_aload_n hx hb dL_law_1253 rfl (lv_at hl 2 rfl) ?_
  refine lv_aload_n hx hb dL_law_1254 rfl (lv_at hl 0 rfl) ?_
  refine lv_iload_n hx hb dL_law_1255 rfl (lv_at hl 3 rfl) ?_
  refine lv_iconst (v := 1) hx hb dL_law_1256 (by decide) ?_
  refine lv_iadd hx hb dL_law_1257 ?_
  obtain ⟨x7, e, hf⟩ := ob hf
  refine q_sc e hx hb hX hbl hw dL_law_1258 ?_
  refine lv_aload_n hx hb dL_law_1259 rfl (lv_at hl 0 rfl) ?_
  refine lv_iload_n hx hb dL_law_1260 rfl (lv_at hl 3 rfl) ?_
  refine lv_iconst (v := 2) hx hb dL_law_1261 (by decide) ?_
  refine lv_iadd hx hb dL_law_1262 ?_
  obtain ⟨x8, e, hf⟩ := ob hf
  refine q_sc e hx hb hX hbl hw dL_law_1263 ?_
  refine lv_aload_n hx hb dL_law_1264 rfl (lv_at hl 0 rfl) ?_
  refine lv_iload_n hx hb dL_law_1265 rfl (lv_at hl 3 rfl) ?_
  refine lv_iconst (v := 3) hx hb dL_law_1266 (by decide) ?_
  refine lv_iadd hx hb dL_law_1267 ?_
  obtain ⟨x9, e, hf⟩ := ob hf
  refine q_sc e hx hb hX hbl hw dL_law_1268 ?_
  refine lv_i2l (v := (Int32.toInt64 x9)) hx hb dL_law_1269 rfl ?_
  refine lv_bipush (v := 32) hx hb dL_law_1270 (by decide) ?_
  refine lv_lshl (v := ((Int32.toInt64 x9) <<< (Int32.toInt64 32 &&& 63))) hx hb dL_law_1272 rfl ?_
  refine lv_aload_n hx hb dL_law_1273 rfl (lv_at hl 0 rfl) ?_
  refine lv_iload_n hx hb dL_law_1274 rfl (lv_at hl 3 rfl) ?_
  refine lv_iconst (v := 4) hx hb dL_law_1275 (by decide) ?_
  refine lv_iadd hx hb dL_law_1276 ?_
  obtain ⟨x10, e, hf⟩ := ob hf
  refine q_sc e hx hb hX hbl hw dL_law_1277 ?_
  refine lv_i2l (v := (Int32.toInt64 x10)) hx hb dL_law_1278 rfl ?_
  refine lv_ldc2 hx hb B.2.2.2.1 (B.w tw_8_210 rfl) dL_law_1279 ?_
  refine lv_land hx hb dL_law_1282 ?_
  refine lv_lor hx hb dL_law_1283 ?_
  obtain ⟨⟨x11, h12⟩, e, hf⟩ := ob hf
  refine q_callV (As := [.int x7, .int x8, .long (((Int32.toInt64 x9) <<< (Int32.toInt64 32 &&& 63)) ||| ((Int32.toInt64 x10) &&& 4294967295))]) (rest := [.long x5]) (st1 := [.long x11, .long x5]) (c_X12_write G e) B hw hM.hz hM.hc0 (k_X12_write e) (by decide) (ci := 12) rfl rfl my_X12_write mv_X12_write tw_8_182 ⟨Nat.le_of_ble_eq_true rfl, Nat.le_of_ble_eq_true rfl⟩ hM.hcs rfl hl.1 rfl rfl (Nat.le_of_ble_eq_true rfl) dL_law_1284 (fun H locs hw => ?_)
  refine W.lcmp hx hb dL_law_1287 ?_
  refine lv_if_eq (tgt := 1395) hx hb dL_law_1288 (by decide) (fun c13 => ?_) (fun c13 => ?_)
  · have hf := (if_pos c13).symm.trans hf
    obtain ⟨rfl, rfl⟩ := so2 hf
    exact hk _ _ _ hw hM (lv_sub hl [0, 1, 2, 3] rfl)
  · have hf := (if_neg c13).symm.trans hf
    refine lv_iconst (v := 0) hx hb dL_law_1291 (by decide) ?_
    cases hf
def f_law_1293 (n : Nat) (z0 : Sh) (L : Nat) (xs : Nat → Int32) (v1 v2 : Nat) (z : Sh) (h : Hp) (v3 : Int32) : Option (Hp × Sh) :=
  (sc L xs (v3 + 1)).bind fun x1 =>
  (sc L xs (v3 + 2)).bind fun x2 =>
  (f_X11_lists n z h v1 x1 x2).bind fun (x3, h4, z5) =>
  gdL z0 z5 <|
  (sc L xs (v3 + 1)).bind fun x6 =>
  (sc L xs (v3 + 2)).bind fun x7 =>
  (f_X12_lists n z5 h4 v2 x6 x7).bind fun (x8, h9) =>
  if x3 = x8 then
    some (h9, z5)
  else
    none
set_option maxHeartbeats 4000000 in
theorem w_law_1293 {p : Program} {l : Launch} {e : Env} {s : State} {m : MethodId} {below : List Frame} {meth : Method} {c : Code} {E : Ev} {b L : Nat} {xs : Nat → Int32} {n : Nat} {z0 : Sh} {v1 v2 : Nat} {z : Sh} {h : Hp} {v3 : Int32} {h9 : Hp} {z9 : Sh} {H : Heap} {locs : List Loc} {ls : Array Slot} (G : Gl s E) (B : Bd p s s E m c cL_law 4 RL) (hX : va_X b L xs s s.heap) (hbl : b < s.heap.size) (hw : Pw s s E z h H locs) (hM : Mo s s z0 z (zLim z0)) (hl : lv_has ls 4 [(0, .ref b), (1, .ref v1), (2, .ref v2), (3, .int v3)]) (hf : f_law_1293 n z0 L xs v1 v2 z h v3 = some (h9, z9)) (hk : ∀ (H : Heap) (locs : List Loc) (ls : Array Slot), Pw s s E z9 h9 H locs → Mo s s z0 z9 (zLim z0) → lv_has ls 4 [(0, .ref b), (1, .ref v1), (2, .ref v2), (3, .int v3)] → W p l e (rmA 2048 84000 z0 (zLim z0)) s m #[Value.ref b] below meth c H locs (z9.sz - z0.sz) (z9.sl - z0.sl) (lw_Z below #[Value.ref b] s) (F0 m 1395 ls [])) : W p l e (rmA 2048 84000 z0 (zLim z0)) s m #[Value.ref b] below meth c H locs (z.sz - z0.sz) (z.sl - z0.sl) (lw_Z below #[Value.ref b] s) (F0 m 1293 ls []) := by
  have hx := B.1
  have hb := B.2.1
  unfold f_law_1293 at hf
  refine lv_aload_n hx hb dL_law_1293 rfl (lv_at hl 1 rfl) ?_
  refine lv_aload_n hx hb dL_law_1294 rfl (lv_at hl 0 rfl) ?_
  refine lv_iload_n hx hb dL_law_1295 rfl (lv_at hl 3 rfl) ?_
  refine lv_iconst (v := 1) hx hb dL_law_1296 (by decide) ?_
  refine lv_iadd hx hb dL_law_1297 ?_
  obtain ⟨x1, e, hf⟩ := ob hf
  refine q_sc e hx hb hX hbl hw dL_law_1298 ?_
  refine lv_aload_n hx hb dL_law_1299 rfl (lv_at hl 0 rfl) ?_
  refine lv_iload_n hx hb dL_law_1300 rfl (lv_at hl 3 rfl) ?_
  refine lv_iconst (v := 2) hx hb dL_law_1301 (by decide) ?_
  refine lv_iadd hx hb dL_law_1302 ?_
  obtain ⟨x2, e, hf⟩ := ob hf
  refine q_sc e hx hb hX hbl hw dL_law_1303 ?_
  obtain ⟨⟨x3, h4, z5⟩, e, hf⟩ := ob hf
  obtain ⟨hg, hf⟩ := gdL_some hf
  refine q_callVA (As := [.int x1, .int x2]) (rest := []) (st1 := [.int x3]) (c_X11_lists G e) (mo_X11_lists e) hg B hw hM (k_X11_lists e) (by decide) (ci := 11) rfl rfl my_X11_lists mv_X11_lists tw_6_8 ⟨Nat.le_of_ble_eq_true rfl, Nat.le_of_ble_eq_true rfl⟩ rfl hl.1 rfl rfl (Nat.le_of_ble_eq_true rfl) dL_law_1304 (fun H locs hw hM => ?_)
  refine lv_aload_n hx hb dL_law_1307 rfl (lv_at hl 2 rfl) ?_
  refine lv_aload_n hx hb dL_law_1308 rfl (lv_at hl 0 rfl) ?_
  refine lv_iload_n hx hb dL_law_1309 rfl (lv_at hl 3 rfl) ?_
  refine lv_iconst (v := 1) hx hb dL_law_1310 (by decide) ?_
  refine lv_iadd hx hb dL_law_1311 ?_
  obtain ⟨x6, e, hf⟩ := ob hf
  refine q_sc e hx hb hX hbl hw dL_law_1312 ?_
  refine lv_aload_n hx hb dL_law_1313 rfl (lv_at hl 0 rfl) ?_
  refine lv_iload_n hx hb dL_law_1314 rfl (lv_at hl 3 rfl) ?_
  refine lv_iconst (v := 2) hx hb dL_law_1315 (by decide) ?_
  refine lv_iadd hx hb dL_law_1316 ?_
  obtain ⟨x7, e, hf⟩ := ob hf
  refine q_sc e hx hb hX hbl hw dL_law_1317 ?_
  obtain ⟨⟨x8, h9⟩, e, hf⟩ := ob hf
  refine q_callV (As := [.int x6, .int x7]) (rest := [.int x3]) (st1 := [.int x8, .int x3]) (c_X12_lists G e) B hw hM.hz hM.hc0 (k_X12_lists e) (by decide) (ci := 12) rfl rfl my_X12_lists mv_X12_lists tw_8_190 ⟨Nat.le_of_ble_eq_true rfl, Nat.le_of_ble_eq_true rfl⟩ hM.hcs rfl hl.1 rfl rfl (Nat.le_of_ble_eq_true rfl) dL_law_1318 (fun H locs hw => ?_)
  refine lv_icmp_eq (tgt := 1395) hx hb dL_law_1321 (by decide) (fun c10 => ?_) (fun c10 => ?_)
  · have hf := (if_pos c10).symm.trans hf
    obtain ⟨rfl, rfl⟩ := so2 hf
    exact hk _ _ _ hw hM (lv_sub hl [0, 1, 2, 3] rfl)
  · have hf := (if_neg c10).symm.trans hf
    refine lv_iconst (v := 0) hx hb dL_law_1324 (by decide) ?_
    cases hf
def f_law_1326 (n : Nat) (z0 : Sh) (L : Nat) (xs : Nat → Int32) (v1 v2 : Nat) (z : Sh) (h : Hp) (v3 : Int32) : Option (Hp × Sh) :=
  (sc L xs (v3 + 1)).bind fun x1 =>
  (f_X11_image z h v1 x1).bind fun (x2, h3) =>
  (sc L xs (v3 + 1)).bind fun x4 =>
  (f_X12_image n z h3 v2 x4).bind fun (x5, h6) =>
  if x2 = x5 then
    some (h6, z)
  else
    none
set_option maxHeartbeats 4000000 in
theorem w_law_1326 {p : Program} {l : Launch} {e : Env} {s : State} {m : MethodId} {below : List Frame} {meth : Method} {c : Code} {E : Ev} {b L : Nat} {xs : Nat → Int32} {n : Nat} {z0 : Sh} {v1 v2 : Nat} {z : Sh} {h : Hp} {v3 : Int32} {h9 : Hp} {z9 : Sh} {H : Heap} {locs : List Loc} {ls : Array Slot} (G : Gl s E) (B : Bd p s s E m c cL_law 4 RL) (hX : va_X b L xs s s.heap) (hbl : b < s.heap.size) (hw : Pw s s E z h H locs) (hM : Mo s s z0 z (zLim z0)) (hl : lv_has ls 4 [(0, .ref b), (1, .ref v1), (2, .ref v2), (3, .int v3)]) (hf : f_law_1326 n z0 L xs v1 v2 z h v3 = some (h9, z9)) (hk : ∀ (H : Heap) (locs : List Loc) (ls : Array Slot), Pw s s E z9 h9 H locs → Mo s s z0 z9 (zLim z0) → lv_has ls 4 [(0, .ref b), (1, .ref v1), (2, .ref v2), (3, .int v3)] → W p l e (rmA 2048 84000 z0 (zLim z0)) s m #[Value.ref b] below meth c H locs (z9.sz - z0.sz) (z9.sl - z0.sl) (lw_Z below #[Value.ref b] s) (F0 m 1395 ls [])) : W p l e (rmA 2048 84000 z0 (zLim z0)) s m #[Value.ref b] below meth c H locs (z.sz - z0.sz) (z.sl - z0.sl) (lw_Z below #[Value.ref b] s) (F0 m 1326 ls []) := by
  have hx := B.1
  have hb := B.2.1
  unfold f_law_1326 at hf
  refine lv_aload_n hx hb dL_law_1326 rfl (lv_at hl 1 rfl) ?_
  refine lv_aload_n hx hb dL_law_1327 rfl (lv_at hl 0 rfl) ?_
  refine lv_iload_n hx hb dL_law_1328 rfl (lv_at hl 3 rfl) ?_
  refine lv_iconst (v := 1) hx hb dL_law_1329 (by decide) ?_
  refine lv_iadd hx hb dL_law_1330 ?_
  obtain ⟨x1, e, hf⟩ := ob hf
  refine q_sc e hx hb hX hbl hw dL_law_1331 ?_
  obtain ⟨⟨x2, h3⟩, e, hf⟩ := ob hf
  refine q_callV (As := [.int x1]) (rest := []) (st1 := [.int x2]) (c_X11_image G e) B hw hM.hz hM.hc0 (k_X11_image e) (by decide) (ci := 11) rfl rfl my_X11_image mv_X11_image tw_6_17 ⟨Nat.le_of_ble_eq_true rfl, Nat.le_of_ble_eq_true rfl⟩ hM.hcs rfl hl.1 rfl rfl (Nat.le_of_ble_eq_true rfl) dL_law_1332 (fun H locs hw => ?_)
  refine lv_aload_n hx hb dL_law_1335 rfl (lv_at hl 2 rfl) ?_
  refine lv_aload_n hx hb dL_law_1336 rfl (lv_at hl 0 rfl) ?_
  refine lv_iload_n hx hb dL_law_1337 rfl (lv_at hl 3 rfl) ?_
  refine lv_iconst (v := 1) hx hb dL_law_1338 (by decide) ?_
  refine lv_iadd hx hb dL_law_1339 ?_
  obtain ⟨x4, e, hf⟩ := ob hf
  refine q_sc e hx hb hX hbl hw dL_law_1340 ?_
  obtain ⟨⟨x5, h6⟩, e, hf⟩ := ob hf
  refine q_callV (As := [.int x4]) (rest := [.int x2]) (st1 := [.int x5, .int x2]) (c_X12_image G e) B hw hM.hz hM.hc0 (k_X12_image e) (by decide) (ci := 12) rfl rfl my_X12_image mv_X12_image tw_8_194 ⟨Nat.le_of_ble_eq_true rfl, Nat.le_of_ble_eq_true rfl⟩ hM.hcs rfl hl.1 rfl rfl (Nat.le_of_ble_eq_true rfl) dL_law_1341 (fun H locs hw => ?_)
  refine lv_icmp_eq (tgt := 1395) hx hb dL_law_1344 (by decide) (fun c7 => ?_) (fun c7 => ?_)
  · have hf := (if_pos c7).symm.trans hf
    obtain ⟨rfl, rfl⟩ := so2 hf
    exact hk _ _ _ hw hM (lv_sub hl [0, 1, 2, 3] rfl)
  · have hf := (if_neg c7).symm.trans hf
    refine lv_iconst (v := 0) hx hb dL_law_1347 (by decide) ?_
    cases hf
def f_law_1349 (n : Nat) (z0 : Sh) (L : Nat) (xs : Nat → Int32) (v1 v2 : Nat) (z : Sh) (h : Hp) (v3 : Int32) : Option (Hp × Sh) :=
  (sc L xs (v3 + 1)).bind fun x1 =>
  (f_X11_restore z h v1 x1).bind fun (x2, h3) =>
  (sc L xs (v3 + 1)).bind fun x4 =>
  (f_X12_restore n z h3 v2 x4).bind fun (x5, h6) =>
  if x2 = x5 then
    some (h6, z)
  else
    none
set_option maxHeartbeats 4000000 in
theorem w_law_1349 {p : Program} {l : Launch} {e : Env} {s : State} {m : MethodId} {below : List Frame} {meth : Method} {c : Code} {E : Ev} {b L : Nat} {xs : Nat → Int32} {n : Nat} {z0 : Sh} {v1 v2 : Nat} {z : Sh} {h : Hp} {v3 : Int32} {h9 : Hp} {z9 : Sh} {H : Heap} {locs : List Loc} {ls : Array Slot} (G : Gl s E) (B : Bd p s s E m c cL_law 4 RL) (hX : va_X b L xs s s.heap) (hbl : b < s.heap.size) (hw : Pw s s E z h H locs) (hM : Mo s s z0 z (zLim z0)) (hl : lv_has ls 4 [(0, .ref b), (1, .ref v1), (2, .ref v2), (3, .int v3)]) (hf : f_law_1349 n z0 L xs v1 v2 z h v3 = some (h9, z9)) (hk : ∀ (H : Heap) (locs : List Loc) (ls : Array Slot), Pw s s E z9 h9 H locs → Mo s s z0 z9 (zLim z0) → lv_has ls 4 [(0, .ref b), (1, .ref v1), (2, .ref v2), (3, .int v3)] → W p l e (rmA 2048 84000 z0 (zLim z0)) s m #[Value.ref b] below meth c H locs (z9.sz - z0.sz) (z9.sl - z0.sl) (lw_Z below #[Value.ref b] s) (F0 m 1395 ls [])) : W p l e (rmA 2048 84000 z0 (zLim z0)) s m #[Value.ref b] below meth c H locs (z.sz - z0.sz) (z.sl - z0.sl) (lw_Z below #[Value.ref b] s) (F0 m 1349 ls []) := by
  have hx := B.1
  have hb := B.2.1
  unfold f_law_1349 at hf
  refine lv_aload_n hx hb dL_law_1349 rfl (lv_at hl 1 rfl) ?_
  refine lv_aload_n hx hb dL_law_1350 rfl (lv_at hl 0 rfl) ?_
  refine lv_iload_n hx hb dL_law_1351 rfl (lv_at hl 3 rfl) ?_
  refine lv_iconst (v := 1) hx hb dL_law_1352 (by decide) ?_
  refine lv_iadd hx hb dL_law_1353 ?_
  obtain ⟨x1, e, hf⟩ := ob hf
  refine q_sc e hx hb hX hbl hw dL_law_1354 ?_
  obtain ⟨⟨x2, h3⟩, e, hf⟩ := ob hf
  refine q_callV (As := [.int x1]) (rest := []) (st1 := [.int x2]) (c_X11_restore G e) B hw hM.hz hM.hc0 (k_X11_restore e) (by decide) (ci := 11) rfl rfl my_X11_restore mv_X11_restore tw_6_21 ⟨Nat.le_of_ble_eq_true rfl, Nat.le_of_ble_eq_true rfl⟩ hM.hcs rfl hl.1 rfl rfl (Nat.le_of_ble_eq_true rfl) dL_law_1355 (fun H locs hw => ?_)
  refine lv_aload_n hx hb dL_law_1358 rfl (lv_at hl 2 rfl) ?_
  refine lv_aload_n hx hb dL_law_1359 rfl (lv_at hl 0 rfl) ?_
  refine lv_iload_n hx hb dL_law_1360 rfl (lv_at hl 3 rfl) ?_
  refine lv_iconst (v := 1) hx hb dL_law_1361 (by decide) ?_
  refine lv_iadd hx hb dL_law_1362 ?_
  obtain ⟨x4, e, hf⟩ := ob hf
  refine q_sc e hx hb hX hbl hw dL_law_1363 ?_
  obtain ⟨⟨x5, h6⟩, e, hf⟩ := ob hf
  refine q_callV (As := [.int x4]) (rest := [.int x2]) (st1 := [.int x5, .int x2]) (c_X12_restore G e) B hw hM.hz hM.hc0 (k_X12_restore e) (by decide) (ci := 12) rfl rfl my_X12_restore mv_X12_restore tw_8_198 ⟨Nat.le_of_ble_eq_true rfl, Nat.le_of_ble_eq_true rfl⟩ hM.hcs rfl hl.1 rfl rfl (Nat.le_of_ble_eq_true rfl) dL_law_1364 (fun H locs hw => ?_)
  refine lv_icmp_eq (tgt := 1395) hx hb dL_law_1367 (by decide) (fun c7 => ?_) (fun c7 => ?_)
  · have hf := (if_pos c7).symm.trans hf
    obtain ⟨rfl, rfl⟩ := so2 hf
    exact hk _ _ _ hw hM (lv_sub hl [0, 1, 2, 3] rfl)
  · have hf := (if_neg c7).symm.trans hf
    refine lv_iconst (v := 0) hx hb dL_law_1370 (by decide) ?_
    cases hf
def f_law_1372 (n : Nat) (z0 : Sh) (L : Nat) (xs : Nat → Int32) (v1 v2 : Nat) (z : Sh) (h : Hp) (v3 : Int32) : Option (Hp × Sh) :=
  (sc L xs (v3 + 1)).bind fun x1 =>
  (f_X11_count n z h v1 x1).bind fun x2 =>
  (sc L xs (v3 + 1)).bind fun x3 =>
  (f_X12_count n z h v2 x3).bind fun (x4, h5) =>
  if x2 = x4 then
    some (h5, z)
  else
    none
set_option maxHeartbeats 4000000 in
theorem w_law_1372 {p : Program} {l : Launch} {e : Env} {s : State} {m : MethodId} {below : List Frame} {meth : Method} {c : Code} {E : Ev} {b L : Nat} {xs : Nat → Int32} {n : Nat} {z0 : Sh} {v1 v2 : Nat} {z : Sh} {h : Hp} {v3 : Int32} {h9 : Hp} {z9 : Sh} {H : Heap} {locs : List Loc} {ls : Array Slot} (G : Gl s E) (B : Bd p s s E m c cL_law 4 RL) (hX : va_X b L xs s s.heap) (hbl : b < s.heap.size) (hw : Pw s s E z h H locs) (hM : Mo s s z0 z (zLim z0)) (hl : lv_has ls 4 [(0, .ref b), (1, .ref v1), (2, .ref v2), (3, .int v3)]) (hf : f_law_1372 n z0 L xs v1 v2 z h v3 = some (h9, z9)) (hk : ∀ (H : Heap) (locs : List Loc) (ls : Array Slot), Pw s s E z9 h9 H locs → Mo s s z0 z9 (zLim z0) → lv_has ls 4 [(0, .ref b), (1, .ref v1), (2, .ref v2), (3, .int v3)] → W p l e (rmA 2048 84000 z0 (zLim z0)) s m #[Value.ref b] below meth c H locs (z9.sz - z0.sz) (z9.sl - z0.sl) (lw_Z below #[Value.ref b] s) (F0 m 1395 ls [])) : W p l e (rmA 2048 84000 z0 (zLim z0)) s m #[Value.ref b] below meth c H locs (z.sz - z0.sz) (z.sl - z0.sl) (lw_Z below #[Value.ref b] s) (F0 m 1372 ls []) := by
  have hx := B.1
  have hb := B.2.1
  unfold f_law_1372 at hf
  refine lv_aload_n hx hb dL_law_1372 rfl (lv_at hl 1 rfl) ?_
  refine lv_aload_n hx hb dL_law_1373 rfl (lv_at hl 0 rfl) ?_
  refine lv_iload_n hx hb dL_law_1374 rfl (lv_at hl 3 rfl) ?_
  refine lv_iconst (v := 1) hx hb dL_law_1375 (by decide) ?_
  refine lv_iadd hx hb dL_law_1376 ?_
  obtain ⟨x1, e, hf⟩ := ob hf
  refine q_sc e hx hb hX hbl hw dL_law_1377 ?_
  obtain ⟨x2, e, hf⟩ := ob hf
  refine q_callV (As := [.int x1]) (rest := []) (st1 := [.int x2]) (c_X11_count G e) B hw hM.hz hM.hc0 (k_X11_count e) (by decide) (ci := 11) rfl rfl my_X11_count mv_X11_count tw_6_25 ⟨Nat.le_of_ble_eq_true rfl, Nat.le_of_ble_eq_true rfl⟩ hM.hcs rfl hl.1 rfl rfl (Nat.le_of_ble_eq_true rfl) dL_law_1378 (fun H locs hw => ?_)
  refine lv_aload_n hx hb dL_law_1381 rfl (lv_at hl 2 rfl) ?_
  refine lv_aload_n hx hb dL_law_1382 rfl (lv_at hl 0 rfl) ?_
  refine lv_iload_n hx hb dL_law_1383 rfl (lv_at hl 3 rfl) ?_
  refine lv_iconst (v := 1) hx hb dL_law_1384 (by decide) ?_
  refine lv_iadd hx hb dL_law_1385 ?_
  obtain ⟨x3, e, hf⟩ := ob hf
  refine q_sc e hx hb hX hbl hw dL_law_1386 ?_
  obtain ⟨⟨x4, h5⟩, e, hf⟩ := ob hf
  refine q_callV (As := [.int x3]) (rest := [.int x2]) (st1 := [.int x4, .int x2]) (c_X12_count G e) B hw hM.hz hM.hc0 (k_X12_count e) (by decide) (ci := 12) rfl rfl my_X12_count mv_X12_count tw_8_202 ⟨Nat.le_of_ble_eq_true rfl, Nat.le_of_ble_eq_true rfl⟩ hM.hcs rfl hl.1 rfl rfl (Nat.le_of_ble_eq_true rfl) dL_law_1387 (fun H locs hw => ?_)
  refine lv_icmp_eq (tgt := 1395) hx hb dL_law_1390 (by decide) (fun c6 => ?_) (fun c6 => ?_)
  · have hf := (if_pos c6).symm.trans hf
    obtain ⟨rfl, rfl⟩ := so2 hf
    exact hk _ _ _ hw hM (lv_sub hl [0, 1, 2, 3] rfl)
  · have hf := (if_neg c6).symm.trans hf
    refine lv_iconst (v := 0) hx hb dL_law_1393 (by decide) ?_
    cases hf
