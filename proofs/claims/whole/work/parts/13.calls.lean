/-! ===== entry, calls, returns ===== -/
section
variable {p : Program} {l : Launch} {e : Env} {R : Room} {s : State} {m : MethodId} {args : Array Value} {below : List Frame} {meth : Method} {c : Code} {H : Heap} {locs : List Loc} {cells slots : Nat} {Q : State → Prop} {pc : Nat} {ls : Array Slot} {rest : List Value} {s0 : State} {E : Ev} {z : Sh} {h : Hp} {cc : ByteArray} {nL : Nat} {own : String}
theorem W.sz {g : JFrame} (k : H.size ≤ s.heap.size + cells → W p l e R s m args below meth c H locs cells slots Q g) : W p l e R s m args below meth c H locs cells slots Q g := fun T hT X => k (by rw [← hT]; exact X.heapSize) T hT X
theorem Pw.lo (hw : Pw s0 s E z h H locs) (hz : s0.heap.size ≤ z.sz) (hs : s0.heap.size ≤ s.heap.size) : z.sz ≤ H.size := by
  rcases Nat.lt_or_ge s0.heap.size z.sz with q | q
  · obtain ⟨k, hk⟩ := va_pl_get (X := []) (f := cf E z h) (pL_mem (s0 := s0) (z := z) (a := z.sz - 1) (by omega) (by omega))
    have := (hw.1 k _ hk).lt
    simp only at this
    omega
  · have := hw.2.1.1
    omega
theorem Pw.toIn (B : Bd p s0 s E m c cc nL own) (hw : Pw s0 s E z h H locs) (hz : s0.heap.size ≤ z.sz) (hc : s.heap.size + cells = z.sz) (hH : H.size ≤ s.heap.size + cells) {t : State} (ht : t.heap = H) (hW : s.WarmedH t.vm) : In s0 E z h t := by
  have hlo := hw.lo hz B.2.2.2.2.2.2.2
  refine ⟨by rw [ht]; omega, hz, State.WarmedH.trans B.2.2.2.2.1 hW, fun q hq => ?_, by rw [ht]; exact hw.1, hw.2.2.1, hw.2.2.2⟩
  rw [ht]
  exact hw.st B.2.2.2.2.2.2.1 B.2.2.2.2.2.2.2 hq
/-- the callee's start, given the caller's world -/
theorem Pw.pre (B : Bd p s0 s E m c cc nL own) (hw : Pw s0 s E z h H locs) (hz : s0.heap.size ≤ z.sz) (hc : s.heap.size + cells = z.sz) (hH : H.size ≤ s.heap.size + cells) (As : List Value) : PreS s H (va_Pc As (In s0 E z h)) As := ⟨fun a U g mk q => q, fun U hU hW => ⟨rfl, hw.toIn B hz hc hH hU hW⟩⟩
theorem cl_go {st0 : List Value} {aa : Array Value} {r : Option Value} {h2 : Hp} (hr : va_Run p l e R s m args below meth c H locs cells slots 0 0 (F0 m pc ls st0) rest (Qt s0 E z h2 r aa) (Ax s0)) (hw : Pw s0 s E z h H locs)
    (kk : ∀ (H1 : Heap) (locs1 : List Loc), Pw s0 s E z h2 H1 locs1 → W p l e R s m args below meth c H1 locs1 cells slots Q (F0 m (pc + 3) ls (r.toList ++ rest))) : W p l e R s m args below meth c H locs cells slots Q (F0 m pc ls st0) := by
  intro T hT X
  obtain ⟨v, st₀, t, T', L, h0, X', hL, e1, e2, ⟨hv, hIn, hz, hk⟩, st⟩ := hr T hT X
  cases hv
  rw [h0] at hz hk
  obtain ⟨t2, a1, b1⟩ := kk T'.heap (locs ++ L) ⟨by rw [e1]; exact hIn.2.2.2.2.1, ⟨Nat.le_trans hw.2.1.1 (by rw [e1]; exact hz), fun q h1 h2 => by rw [e1, hk q (Nat.lt_of_lt_of_le h1 hw.2.1.1) h2]; exact hw.2.1.2.1 q h1 h2, fun q hq => by
      rcases List.mem_append.mp hq with h | h
      · exact hw.2.1.2.2 q h
      · exact hL q h⟩, hIn.2.2.2.2.2⟩ T' rfl X'
  exact ⟨t2, st t2 a1, b1⟩
/-- what the tables say of a method that is called -/
def My (y : MethodName) (bytes : ByteArray) (maxL : Nat) (ret : Option FieldType) (n : Nat) : Prop := Cond.code y bytes maxL ret ∈ lw_tbl ∧ Cond.initialized y.cls ∈ lw_tbl ∧ y.cls ≠ "java/lang/invoke/MethodHandle" ∧ y.cls ≠ "java/lang/invoke/VarHandle" ∧ (parseMethodDescriptor y.desc).map (fun d => d.parameters.length) = some n
def MyV (y : MethodName) : Prop := Cond.instanceMethod y ∈ lw_tbl ∧ Cond.selects y.cls y y ∈ lw_tbl
theorem My.good {y : MethodName} {bytes : ByteArray} {maxL n : Nat} {ret : Option FieldType} (h : My y bytes maxL ret n) : GoodIn lw_tbl [Cond.code y bytes maxL ret] := by
  intro w hw
  rw [List.mem_singleton] at hw
  subst hw
  exact ⟨h.1, Or.inl rfl⟩
theorem Bd.hts0 (B : Bd p s0 s E m c cc nL own) {ws : List Cond} (h : ∀ w ∈ ws, w ∈ lw_tbl ∧ goodWord w = true) : ∀ w ∈ ws, w.before args s = true := fun w hw => B.w (h w hw).1 (h w hw).2
theorem q_callV {y : MethodName} {bytes : ByteArray} {maxL n fr lc b ci N index : Nat} {ret : Option FieldType} {As st0 st1 : List Value} {r : Option Value} {h2 : Hp} {C : String} {T : u_T} (Cc : Ct l s0 E y bytes maxL ret fr lc (.ref b :: As) z h h2 r) (B : Bd p s0 s E m c cc nL own) (hw : Pw s0 s E z h H locs) (hz : s0.heap.size ≤ z.sz) (hc0 : s.heap.size + cells = z.sz) (hK : z.K b = ci) (hci : ci < 13) (hc : vwCl[ci]? = some (C, T, N)) (hyC : y.cls = C) (hy : My y bytes maxL ret n) (hv : MyV y) (hl : Cond.methodLink own index y ∈ lw_tbl) (hR : fr + 1 ≤ R.frames ∧ 8 + (maxL + 11) + lc ≤ R.locals) (hcs : cells ≤ R.cells ∧ slots ≤ R.slots) (hn : As.length = n) (hls : ls.size = nL) (hst : st0 = As.reverse ++ .ref b :: rest) (hs1 : r.toList ++ rest = st1) (hrm : (rest.map fun v => v.category).sum ≤ 8) (hd : decode cc pc = .ok (.invokevirtual index, 3))
    (kk : ∀ (H1 : Heap) (locs1 : List Loc), Pw s0 s E z h2 H1 locs1 → W p l e R s m args below meth c H1 locs1 cells slots Q (F0 m (pc + 3) ls st1)) : W p l e R s m args below meth c H locs cells slots Q (F0 m pc ls st0) := by
  subst hs1
  refine W.sz (fun hH => ?_)
  have hP := hw.at (a := b) (by omega)
  rw [cf_o hK hci] at hP
  have hts : ∀ w ∈ wsV own index C y [Cond.code y bytes maxL ret], w.before args s = true := B.hts0 (fun w hw => by
    simp only [wsV, List.mem_append, List.mem_cons, List.not_mem_nil, or_false] at hw
    rcases hw with (rfl | rfl | rfl | rfl) | rfl
    · exact ⟨hl, rfl⟩
    · exact ⟨hv.1, rfl⟩
    · exact ⟨hyC ▸ hv.2, rfl⟩
    · exact ⟨hyC ▸ hy.2.1, rfl⟩
    · exact ⟨hy.1, rfl⟩)
  have hG : GoodIn (wsV own index C y [Cond.code y bytes maxL ret]) (wsV own index C y [Cond.code y bytes maxL ret]) := fun w hw => ⟨hw, by
    simp only [wsV, List.mem_append, List.mem_cons, List.not_mem_nil, or_false] at hw
    rcases hw with (rfl | rfl | rfl | rfl) | rfl <;> exact Or.inl rfl⟩
  exact cl_go (va_runV (As := As) (rest := rest) ⟨B.1, B.2.1, B.2.2.1, B.2.2.2.1, hts⟩ Cc (cwV n hts hG rfl rfl rfl ⟨hyC, hy.2.2.1, hy.2.2.2.1, hy.2.2.2.2⟩ hR) ⟨fun a U g mk q => q, va_recv B.K hP hc (q0 := 0) rfl, (hw.pre B hz hc0 hH _).2⟩ rfl hn hls hst (lv_room hrm) hd ⟨by omega, by omega⟩) hw kk
theorem q_callVN {y : MethodName} {bytes : ByteArray} {maxL n fr lc b ci N index : Nat} {ret : Option FieldType} {As st0 st1 : List Value} {r : Option Value} {h2 : Hp} {C host : String} {T : u_T} (Cc : Ct l s0 E y bytes maxL ret fr lc (.ref b :: As) z h h2 r) (B : Bd p s0 s E m c cc nL own) (hw : Pw s0 s E z h H locs) (hz : s0.heap.size ≤ z.sz) (hc0 : s.heap.size + cells = z.sz) (hK : z.K b = ci) (hci : ci < 13) (hc : vwCl[ci]? = some (C, T, N)) (hyC : y.cls = C) (hy : My y bytes maxL ret n) (hv : MyV y) (hl : Cond.methodLinkNest own index y host ∈ lw_tbl) (hR : fr + 1 ≤ R.frames ∧ 8 + (maxL + 11) + lc ≤ R.locals) (hcs : cells ≤ R.cells ∧ slots ≤ R.slots) (hn : As.length = n) (hls : ls.size = nL) (hst : st0 = As.reverse ++ .ref b :: rest) (hs1 : r.toList ++ rest = st1) (hrm : (rest.map fun v => v.category).sum ≤ 8) (hd : decode cc pc = .ok (.invokevirtual index, 3))
    (kk : ∀ (H1 : Heap) (locs1 : List Loc), Pw s0 s E z h2 H1 locs1 → W p l e R s m args below meth c H1 locs1 cells slots Q (F0 m (pc + 3) ls st1)) : W p l e R s m args below meth c H locs cells slots Q (F0 m pc ls st0) := by
  subst hs1
  refine W.sz (fun hH => ?_)
  have hP := hw.at (a := b) (by omega)
  rw [cf_o hK hci] at hP
  have hts : ∀ w ∈ [Cond.code y bytes maxL ret], w.before args s = true := B.hts0 (fun w hw => by
    rw [List.mem_singleton] at hw
    subst hw
    exact ⟨hy.1, rfl⟩)
  have hG : GoodIn [Cond.code y bytes maxL ret] [Cond.code y bytes maxL ret] := fun w hw => ⟨hw, by
    rw [List.mem_singleton] at hw
    subst hw
    exact Or.inl rfl⟩
  exact cl_go (va_runVN (C := C) (As := As) (rest := rest) ⟨B.1, B.2.1, B.2.2.1, B.2.2.2.1, hts⟩ Cc ⟨va_cnB n hts hG rfl rfl rfl (B.nM hl) (B.w hy.2.1 rfl) ⟨hy.2.2.1, hy.2.2.2.1, hy.2.2.2.2⟩ hR, B.w hv.1 rfl, B.w (hyC ▸ hv.2) rfl⟩ ⟨fun a U g mk q => q, va_recv B.K hP hc (q0 := 0) rfl, (hw.pre B hz hc0 hH _).2⟩ rfl hn hls hst (lv_room hrm) hd ⟨by omega, by omega⟩) hw kk
theorem q_callS {y : MethodName} {bytes : ByteArray} {maxL n fr lc index : Nat} {ret : Option FieldType} {As st0 st1 : List Value} {r : Option Value} {h2 : Hp} (Cc : Ct l s0 E y bytes maxL ret fr lc As z h h2 r) (B : Bd p s0 s E m c cc nL own) (hw : Pw s0 s E z h H locs) (hz : s0.heap.size ≤ z.sz) (hc0 : s.heap.size + cells = z.sz) (hy : My y bytes maxL ret n) (hv : Cond.static y ∈ lw_tbl) (hl : Cond.methodLink own index y ∈ lw_tbl) (hR : fr + 1 ≤ R.frames ∧ 8 + (maxL + 11) + lc ≤ R.locals) (hcs : cells ≤ R.cells ∧ slots ≤ R.slots) (hn : As.length = n) (hls : ls.size = nL) (hst : st0 = As.reverse ++ rest) (hs1 : r.toList ++ rest = st1) (hrm : (rest.map fun v => v.category).sum ≤ 8) (hd : decode cc pc = .ok (.invokestatic index, 3))
    (kk : ∀ (H1 : Heap) (locs1 : List Loc), Pw s0 s E z h2 H1 locs1 → W p l e R s m args below meth c H1 locs1 cells slots Q (F0 m (pc + 3) ls st1)) : W p l e R s m args below meth c H locs cells slots Q (F0 m pc ls st0) := by
  subst hs1
  refine W.sz (fun hH => ?_)
  have hts : ∀ w ∈ va_wsS own index y [Cond.code y bytes maxL ret], w.before args s = true := B.hts0 (fun w hw => by
    simp only [va_wsS, List.mem_append, List.mem_cons, List.not_mem_nil, or_false] at hw
    rcases hw with (rfl | rfl | rfl) | rfl
    · exact ⟨hl, rfl⟩
    · exact ⟨hv, rfl⟩
    · exact ⟨hy.2.1, rfl⟩
    · exact ⟨hy.1, rfl⟩)
  have hG : GoodIn (va_wsS own index y [Cond.code y bytes maxL ret]) (va_wsS own index y [Cond.code y bytes maxL ret]) := fun w hw => ⟨hw, by
    simp only [va_wsS, List.mem_append, List.mem_cons, List.not_mem_nil, or_false] at hw
    rcases hw with (rfl | rfl | rfl) | rfl <;> exact Or.inl rfl⟩
  exact cl_go (va_runS (As := As) (rest := rest) ⟨B.1, B.2.1, B.2.2.1, B.2.2.2.1, hts⟩ Cc (va_cwS n hts hG rfl rfl rfl ⟨hy.2.2.1, hy.2.2.2.1, hy.2.2.2.2⟩ hR) (hw.pre B hz hc0 hH _) rfl hn hls hst (lv_room hrm) hd ⟨by omega, by omega⟩) hw kk
theorem q_callSN {y : MethodName} {bytes : ByteArray} {maxL n fr lc index : Nat} {ret : Option FieldType} {As st0 st1 : List Value} {r : Option Value} {h2 : Hp} {host : String} (Cc : Ct l s0 E y bytes maxL ret fr lc As z h h2 r) (B : Bd p s0 s E m c cc nL own) (hw : Pw s0 s E z h H locs) (hz : s0.heap.size ≤ z.sz) (hc0 : s.heap.size + cells = z.sz) (hy : My y bytes maxL ret n) (hv : Cond.static y ∈ lw_tbl) (hl : Cond.methodLinkNest own index y host ∈ lw_tbl) (hR : fr + 1 ≤ R.frames ∧ 8 + (maxL + 11) + lc ≤ R.locals) (hcs : cells ≤ R.cells ∧ slots ≤ R.slots) (hn : As.length = n) (hls : ls.size = nL) (hst : st0 = As.reverse ++ rest) (hs1 : r.toList ++ rest = st1) (hrm : (rest.map fun v => v.category).sum ≤ 8) (hd : decode cc pc = .ok (.invokestatic index, 3))
    (kk : ∀ (H1 : Heap) (locs1 : List Loc), Pw s0 s E z h2 H1 locs1 → W p l e R s m args below meth c H1 locs1 cells slots Q (F0 m (pc + 3) ls st1)) : W p l e R s m args below meth c H locs cells slots Q (F0 m pc ls st0) := by
  subst hs1
  refine W.sz (fun hH => ?_)
  have hts : ∀ w ∈ [Cond.code y bytes maxL ret], w.before args s = true := B.hts0 (fun w hw => by
    rw [List.mem_singleton] at hw
    subst hw
    exact ⟨hy.1, rfl⟩)
  have hG : GoodIn [Cond.code y bytes maxL ret] [Cond.code y bytes maxL ret] := fun w hw => ⟨hw, by
    rw [List.mem_singleton] at hw
    subst hw
    exact Or.inl rfl⟩
  exact cl_go (va_runSN (As := As) (rest := rest) ⟨B.1, B.2.1, B.2.2.1, B.2.2.2.1, hts⟩ Cc ⟨va_cnB n hts hG rfl rfl rfl (B.nM hl) (B.w hy.2.1 rfl) ⟨hy.2.2.1, hy.2.2.2.1, hy.2.2.2.2⟩ hR, B.w hv rfl, trivial⟩ (hw.pre B hz hc0 hH _) rfl hn hls hst (lv_room hrm) hd ⟨by omega, by omega⟩) hw kk
/-! returns -/
def Zt (below : List Frame) (s0 : State) (E : Ev) (z : Sh) (h : Hp) (r : Option Value) (args : Array Value) (s : State) (cells slots : Nat) : State → Prop := MQ below (Qt s0 E z h r) args s cells slots (Ax s0)
theorem q_iret {v : Int32} (B : Bd p s0 s E m c cc nL own) (hw : Pw s0 s E z h H locs) (hz : s0.heap.size ≤ z.sz) (hc0 : s.heap.size + cells = z.sz) (hr : meth.sig.returnType = some .int) (hlk : meth.locks = false) (hd : decode cc pc = .ok (.ireturn, 1)) : W p l e R s m args below meth c H locs cells slots (Zt below s0 E z h (some (.int v)) args s cells slots) (F0 m pc ls [.int v]) :=
  W.sz (fun hH => W.iret B.1 B.2.1 hr (fun t ht hW => ⟨rfl, hw.toIn B hz hc0 hH ht hW, hw.2.1.F ht⟩) hw.2.1.2.2 hd hlk)
theorem q_zret {v : Int32} (hv : v = 0 ∨ v = 1) (B : Bd p s0 s E m c cc nL own) (hw : Pw s0 s E z h H locs) (hz : s0.heap.size ≤ z.sz) (hc0 : s.heap.size + cells = z.sz) (hr : meth.sig.returnType = some .boolean) (hlk : meth.locks = false) (hd : decode cc pc = .ok (.ireturn, 1)) : W p l e R s m args below meth c H locs cells slots (Zt below s0 E z h (some (.int v)) args s cells slots) (F0 m pc ls [.int v]) :=
  W.sz (fun hH => W.zret B.1 B.2.1 hr (nar_z hv) (fun t ht hW => ⟨rfl, hw.toIn B hz hc0 hH ht hW, hw.2.1.F ht⟩) hw.2.1.2.2 hd hlk)
theorem q_lret {v : Int64} (B : Bd p s0 s E m c cc nL own) (hw : Pw s0 s E z h H locs) (hz : s0.heap.size ≤ z.sz) (hc0 : s.heap.size + cells = z.sz) (hr : meth.sig.returnType = some .long) (hlk : meth.locks = false) (hd : decode cc pc = .ok (.lreturn, 1)) : W p l e R s m args below meth c H locs cells slots (Zt below s0 E z h (some (.long v)) args s cells slots) (F0 m pc ls [.long v]) :=
  W.sz (fun hH => W.lret B.1 B.2.1 hr (fun t ht hW => ⟨rfl, hw.toIn B hz hc0 hH ht hW, hw.2.1.F ht⟩) hw.2.1.2.2 hd hlk)
theorem q_vret (B : Bd p s0 s E m c cc nL own) (hw : Pw s0 s E z h H locs) (hz : s0.heap.size ≤ z.sz) (hc0 : s.heap.size + cells = z.sz) (hr : meth.sig.returnType = none) (hlk : meth.locks = false) (hd : decode cc pc = .ok (.return_, 1)) : W p l e R s m args below meth c H locs cells slots (Zt below s0 E z h none args s cells slots) (F0 m pc ls []) :=
  W.sz (fun hH => W.vret B.1 B.2.1 hr (fun t ht hW => ⟨rfl, hw.toIn B hz hc0 hH ht hW, hw.2.1.F ht⟩) hw.2.1.2.2 hd hlk)
theorem q_aret {v : Value} {rt : FieldType} (hrt : (∃ n, rt = .object n) ∨ ∃ t, rt = .array t) (hv : v = .null ∨ ∃ a, v = .ref a) (B : Bd p s0 s E m c cc nL own) (hw : Pw s0 s E z h H locs) (hz : s0.heap.size ≤ z.sz) (hc0 : s.heap.size + cells = z.sz) (hr : meth.sig.returnType = some rt) (hlk : meth.locks = false) (hd : decode cc pc = .ok (.areturn, 1)) : W p l e R s m args below meth c H locs cells slots (Zt below s0 E z h (some v) args s cells slots) (F0 m pc ls [v]) :=
  W.sz (fun hH => W.aret B.1 B.2.1 hr hrt hv (fun t ht hW => ⟨rfl, hw.toIn B hz hc0 hH ht hW, hw.2.1.F ht⟩) hw.2.1.2.2 hd hlk)
end
/-! entry -/
def rmO (fr lc : Nat) : Room := { frames := fr, cells := 0, slots := 0, locals := lc }
theorem Ct.of {l : Launch} {s0 : State} {E : Ev} {y : MethodName} {cc : ByteArray} {nL fr lc : Nat} {ret : Option FieldType} {As : List Value} {z : Sh} {h h' : Hp} {r : Option Value} (G : Gl s0 E) (hy : plainName y.cls = true) (hn : (lg_sl As).length ≤ nL)
    (body : ∀ (p : Program) (e : Env) (s : State) (m : MethodId) (below : List Frame) (meth : Method) (c : Code) (ls : Array Slot), Bd p s0 s E m c cc nL y.cls → Pw s0 s E z h s.heap [] → s0.heap.size ≤ z.sz → s.heap.size + 0 = z.sz → meth.sig.returnType = ret → meth.locks = false → lv_has ls nL (lv_args 0 As) →
      W p l e (rmO fr lc) s m As.toArray below meth c s.heap [] 0 0 (Zt below s0 E z h' r As.toArray s 0 0) (F0 m 0 ls [])) : Ct l s0 E y cc nL ret fr lc As z h h' r := by
  refine Met.ofW (cc := cc) (maxL := nL) (ret := ret) hy rfl ?_
  intro p e s m args below meth c s₁ B hml hv
  obtain ⟨rfl, hI⟩ := hv
  have hown : s.vm.findClass y.cls = some m.cls := findClass_of_methodNamed B.named
  rw [lg_entry_eq]
  exact body p e s m below meth c _ ⟨B.exec, B.bytes, hml, hown, hI.2.2.1, G, hI.2.2.2.1, by have := hI.1; have := hI.2.1; omega⟩ ⟨hI.2.2.2.2.1, va_S.rf, hI.2.2.2.2.2⟩ hI.2.1 (by have := hI.1; omega) B.returns B.notSynchronized (lv_entry As hn)
theorem Ct.ofF {l : Launch} {s0 : State} {E : Ev} {y : MethodName} {cc : ByteArray} {nL fr lc : Nat} {ret : Option FieldType} {As : List Value} {z : Sh} {h h' : Hp} {r : Option Value} (G : Gl s0 E) (hy : plainFor y = true) (hn : (lg_sl As).length ≤ nL)
    (body : ∀ (p : Program) (e : Env) (s : State) (m : MethodId) (below : List Frame) (meth : Method) (c : Code) (ls : Array Slot), Bd p s0 s E m c cc nL y.cls → Pw s0 s E z h s.heap [] → s0.heap.size ≤ z.sz → s.heap.size + 0 = z.sz → meth.sig.returnType = ret → meth.locks = false → lv_has ls nL (lv_args 0 As) →
      W p l e (rmO fr lc) s m As.toArray below meth c s.heap [] 0 0 (Zt below s0 E z h' r As.toArray s 0 0) (F0 m 0 ls [])) : Ct l s0 E y cc nL ret fr lc As z h h' r := by
  refine va_MetF (cc := cc) (maxL := nL) (ret := ret) hy rfl ?_
  intro p e s m args below meth c s₁ B hml hv
  obtain ⟨rfl, hI⟩ := hv
  have hown : s.vm.findClass y.cls = some m.cls := findClass_of_methodNamed B.named
  rw [lg_entry_eq]
  exact body p e s m below meth c _ ⟨B.exec, B.bytes, hml, hown, hI.2.2.1, G, hI.2.2.2.1, by have := hI.1; have := hI.2.1; omega⟩ ⟨hI.2.2.2.2.1, va_S.rf, hI.2.2.2.2.2⟩ hI.2.1 (by have := hI.1; omega) B.returns B.notSynchronized (lv_entry As hn)
/-! ===== small rows ===== -/
section
variable {p : Program} {l : Launch} {e : Env} {R : Room} {s : State} {m : MethodId} {args : Array Value} {below : List Frame} {meth : Method} {c : Code} {H : Heap} {locs : List Loc} {cells slots : Nat} {Q : State → Prop} {pc : Nat} {ls : Array Slot} {rest : List Value} {cc : ByteArray}
theorem q_nmI {x y : Int32} (e0 : some x = some y) (k : W p l e R s m args below meth c H locs cells slots Q (F0 m pc ls (.int y :: rest))) : W p l e R s m args below meth c H locs cells slots Q (F0 m pc ls (.int x :: rest)) := by
  cases e0
  exact k
theorem q_nmJ {x y : Int64} (e0 : some x = some y) (k : W p l e R s m args below meth c H locs cells slots Q (F0 m pc ls (.long y :: rest))) : W p l e R s m args below meth c H locs cells slots Q (F0 m pc ls (.long x :: rest)) := by
  cases e0
  exact k
theorem q_idiv {x y v : Int32} (e0 : dvI x y = some v) (hx : p.tables.exec = Jvm.exec) (hb : c.code = cc) (hd : decode cc pc = .ok (.idiv, 1)) (k : W p l e R s m args below meth c H locs cells slots Q (F0 m (pc + 1) ls (.int v :: rest))) : W p l e R s m args below meth c H locs cells slots Q (F0 m pc ls (.int y :: .int x :: rest)) := by
  obtain ⟨h1, h2⟩ := if_some e0
  cases h2
  exact lv_idiv hx hb hd h1 k
theorem q_irem {x y v : Int32} (e0 : rmI x y = some v) (hx : p.tables.exec = Jvm.exec) (hb : c.code = cc) (hd : decode cc pc = .ok (.irem, 1)) (k : W p l e R s m args below meth c H locs cells slots Q (F0 m (pc + 1) ls (.int v :: rest))) : W p l e R s m args below meth c H locs cells slots Q (F0 m pc ls (.int y :: .int x :: rest)) := by
  obtain ⟨h1, h2⟩ := if_some e0
  cases h2
  exact lv_irem hx hb hd h1 k
theorem q_ldiv {x y v : Int64} (e0 : dvJ x y = some v) (hx : p.tables.exec = Jvm.exec) (hb : c.code = cc) (hd : decode cc pc = .ok (.ldiv, 1)) (k : W p l e R s m args below meth c H locs cells slots Q (F0 m (pc + 1) ls (.long v :: rest))) : W p l e R s m args below meth c H locs cells slots Q (F0 m pc ls (.long y :: .long x :: rest)) := by
  obtain ⟨h1, h2⟩ := if_some e0
  cases h2
  exact lv_ldiv hx hb hd h1 k
theorem q_lrem {x y v : Int64} (e0 : rmJ x y = some v) (hx : p.tables.exec = Jvm.exec) (hb : c.code = cc) (hd : decode cc pc = .ok (.lrem, 1)) (k : W p l e R s m args below meth c H locs cells slots Q (F0 m (pc + 1) ls (.long v :: rest))) : W p l e R s m args below meth c H locs cells slots Q (F0 m pc ls (.long y :: .long x :: rest)) := by
  obtain ⟨h1, h2⟩ := if_some e0
  cases h2
  exact lv_lrem hx hb hd h1 k
end
theorem sw_out {x : Int32} {lo hi : Int} (h : ∀ k : Int, lo ≤ k → k ≤ hi → ¬ x.toInt = k) : x.toInt < lo ∨ hi < x.toInt := by
  rcases Int.lt_or_le x.toInt lo with q | q
  · exact Or.inl q
  · rcases Int.lt_or_le hi x.toInt with q2 | q2
    · exact Or.inr q2
    · exact absurd rfl (h _ q q2)
theorem so {α : Type} {a b : α} (h : some a = some b) : b = a := (Option.some.inj h).symm
theorem so2 {α β : Type} {a c : α} {b d : β} (h : some (a, b) = some (c, d)) : c = a ∧ d = b := ⟨(Prod.mk.inj (Option.some.inj h)).1.symm, (Prod.mk.inj (Option.some.inj h)).2.symm⟩
