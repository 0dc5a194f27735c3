/-! ===== statics, Strings, copies, cells that are made ===== -/
section
variable {p : Program} {l : Launch} {e : Env} {R : Room} {s : State} {m : MethodId} {args : Array Value} {below : List Frame} {meth : Method} {c : Code} {H : Heap} {locs : List Loc} {cells slots : Nat} {Q : State → Prop} {pc : Nat} {ls : Array Slot} {rest : List Value} {s0 : State} {E : Ev} {z : Sh} {h : Hp} {cc : ByteArray} {nL : Nat} {own : String}
theorem q_gsR {C n d ref : String} {index k : Nat} (hZ : va_Z C n d (.ref (E.st k)) (Ax s0) s0 s0.heap) (B : Bd p s0 s E m c cc nL own) (hw : Pw s0 s E z h H locs) (hs : C = ref) (hl : Cond.fieldLink own index ref n d ∈ lw_tbl) (hd : decode cc pc = .ok (.getstatic index, 3))
    (kk : W p l e R s m args below meth c H locs cells slots Q (F0 m (pc + 3) ls (.ref (z.st k) :: rest))) : W p l e R s m args below meth c H locs cells slots Q (F0 m pc ls rest) := by
  rw [hw.2.2.2.1 k] at kk
  exact va_gets B.1 B.2.1 ((hZ.moved B.2.2.2.2.1.alike).kept B.keep) hw.2.1 B.2.2.2.1 (B.w hl rfl) (fun _ q => by rw [hs] at q; exact q) hd kk
theorem q_gsI {C n d ref : String} {index : Nat} {v : Int32} (hZ : va_Z C n d (.int v) (Ax s0) s0 s0.heap) (B : Bd p s0 s E m c cc nL own) (hw : Pw s0 s E z h H locs) (hs : C = ref) (hl : Cond.fieldLink own index ref n d ∈ lw_tbl) (hd : decode cc pc = .ok (.getstatic index, 3))
    (kk : W p l e R s m args below meth c H locs cells slots Q (F0 m (pc + 3) ls (.int v :: rest))) : W p l e R s m args below meth c H locs cells slots Q (F0 m pc ls rest) :=
  va_gets B.1 B.2.1 ((hZ.moved B.2.2.2.2.1.alike).kept B.keep) hw.2.1 B.2.2.2.1 (B.w hl rfl) (fun _ q => by rw [hs] at q; exact q) hd kk
theorem q_ldcS {tx : String} {index i : Nat} (G : Gl s0 E) (hm : (own, index, tx, i) ∈ strTab) (B : Bd p s0 s E m c cc nL own) (hw : Pw s0 s E z h H locs) (hd : decode cc pc = .ok (.ldc index, 2))
    (kk : W p l e R s m args below meth c H locs cells slots Q (F0 m (pc + 2) ls (.ref (z.st i) :: rest))) : W p l e R s m args below meth c H locs cells slots Q (F0 m pc ls rest) := by
  rw [hw.2.2.2.1 i] at kk
  exact va_ldcS B.1 B.2.1 B.2.2.2.1 ((G.2.2.2.2.2.2 _ hm).warm B.2.2.2.2.1) hd kk
def gSV (z : Sh) (h : Hp) (a : Nat) : Option Nat := if z.isS a = true then h.R a 0 else none
def gSC (z : Sh) (a : Nat) : Option Int32 := if z.isS a = true then some 0 else none
theorem q_gSV {a v index : Nat} {ref : String} (hv : gSV z h a = some v) (B : Bd p s0 s E m c cc nL own) (hw : Pw s0 s E z h H locs) (hs : "java/lang/String" = ref) (hl : Cond.fieldLink own index ref "value" "[B" ∈ lw_tbl) (hd : decode cc pc = .ok (.getfield index, 3))
    (kk : W p l e R s m args below meth c H locs cells slots Q (F0 m (pc + 3) ls (.ref v :: rest))) : W p l e R s m args below meth c H locs cells slots Q (F0 m pc ls (.ref a :: rest)) := by
  obtain ⟨hK, hv⟩ := if_some hv
  obtain ⟨h1, h2, w, h3, h4⟩ := hw.2.2.2.2.2.2.2 a hK
  cases hv.symm.trans h3
  exact vk_getf B.1 B.2.1 ((h4.moved B.2.2.2.2.1.alike).kept B.keep) hw.2.1 B.2.2.2.1 (B.w hl rfl) (fun _ q => by rw [hs] at q; exact q) hd kk
theorem q_gSC {a index : Nat} {ref : String} {v : Int32} (hv : gSC z a = some v) (B : Bd p s0 s E m c cc nL own) (hw : Pw s0 s E z h H locs) (hs : "java/lang/String" = ref) (hl : Cond.fieldLink own index ref "coder" "B" ∈ lw_tbl) (hd : decode cc pc = .ok (.getfield index, 3))
    (kk : W p l e R s m args below meth c H locs cells slots Q (F0 m (pc + 3) ls (.int v :: rest))) : W p l e R s m args below meth c H locs cells slots Q (F0 m pc ls (.ref a :: rest)) := by
  obtain ⟨hK, hv⟩ := if_some hv
  cases hv
  obtain ⟨h1, h2, w, h3, h4⟩ := hw.2.2.2.2.2.2.2 a hK
  exact vk_getf B.1 B.2.1 ((h2.moved B.2.2.2.2.1.alike).kept B.keep) hw.2.1 B.2.2.2.1 (B.w hl rfl) (fun _ q => by rw [hs] at q; exact q) hd kk
/-- System.arraycopy of ints, between rows of the pool -/
def cpI (z : Sh) (h : Hp) (a0 : Nat) (sp : Int32) (a : Nat) (dp n : Int32) : Option Hp := if z.K a0 = 14 ∧ z.K a = 14 then (if ¬ sp < 0 ∧ ¬ dp < 0 ∧ ¬ n < 0 ∧ sp.toNatClampNeg + n.toNatClampNeg ≤ z.N a0 ∧ dp.toNatClampNeg + n.toNatClampNeg ≤ z.N a then some (h.rowI a (va_cpy (h.I a0) (h.I a) sp.toNatClampNeg dp.toNatClampNeg n.toNatClampNeg)) else none) else none
theorem q_cpI {a0 a index : Nat} {sp dp n : Int32} {h2 : Hp} (hv : cpI z h a0 sp a dp n = some h2) (B : Bd p s0 s E m c cc nL own) (hw : Pw s0 s E z h H locs) (hls : ls.size = nL) (hl : Cond.methodLink own index arraycopyName ∈ lw_tbl) (hnat : Cond.native arraycopyName ∈ lw_tbl) (hst : Cond.static arraycopyName ∈ lw_tbl) (hin : Cond.initialized "java/lang/System" ∈ lw_tbl) (hf : 1 ≤ R.frames) (hlo : (rest.map fun v => v.category).sum + (nativeFrameWords "java/lang/System" "arraycopy" 5 + 11) ≤ R.locals) (hd : decode cc pc = .ok (.invokestatic index, 3))
    (kk : ∀ (H1 : Heap) (locs1 : List Loc), Pw s0 s E z h2 H1 locs1 → W p l e R s m args below meth c H1 locs1 cells slots Q (F0 m (pc + 3) ls rest)) : W p l e R s m args below meth c H locs cells slots Q (F0 m pc ls (.int n :: .int dp :: .ref a :: .int sp :: .ref a0 :: rest)) := by
  obtain ⟨⟨hK0, hK⟩, hv⟩ := if_some hv
  obtain ⟨⟨b1, b2, b3, b4, b5⟩, hv⟩ := if_some hv
  cases hv
  obtain ⟨q0, hq0⟩ := hw.ix (a := a0) (by omega)
  obtain ⟨q1, hq1⟩ := hw.ix (a := a) (by omega)
  have hq := hq1
  rw [cf_i hK0 (by decide) (by decide) (by decide)] at hq0
  rw [cf_i hK (by decide) (by decide) (by decide)] at hq
  exact va_copyi B.1 B.2.1 (B.2.2.1.trans hls.symm) B.2.2.2.1 (B.w hl rfl) (B.w hnat rfl) (B.w hst rfl) (B.w hin rfl) B.K hw.1 (pL_D s0 z _) hw.2.1 q0 q1 1 1 hq0 hq rfl rfl rfl b1 b2 b3 b4 b5 (fun _ _ => rfl) hf hlo hd (fun H1 locs1 hP _ hS => kk H1 locs1 (hw.wr (by omega) hq1 (h' := h.rowI a _) (by rw [cf_i hK (by decide) (by decide) (by decide), rowI_I]) (fun b hb => rowI_ne h _ hb) (fun b hb => rfl) (fun b hb => rfl) hP hS))
/-- chars and bytes that are returned -/
def bc (x : Int32) : Option Int32 := if 0 ≤ x ∧ x ≤ 65535 then some x else none
theorem nar_c {v : Int32} (h : 0 ≤ v ∧ v ≤ 65535) : narrow .char (.int v) = .int v := by
  obtain ⟨j, hj, rfl⟩ := nI_of2 (x := v) (M := 65535) (n := 65535) (by decide) (by
    intro q
    have h1 := Int32.le_iff_toInt_le.mp h.1
    have h2 := Int32.lt_iff_toInt_lt.mp q
    omega) h.2
  exact (pk_charN (by omega)).1
theorem nar_b {v : Int32} (h : v = 0 ∨ v = 1) : narrow .byte (.int v) = .int v := by rcases h with rfl | rfl <;> decide +kernel
theorem q_cret {v : Int32} (hv : 0 ≤ v ∧ v ≤ 65535) (B : Bd p s0 s E m c cc nL own) (hw : Pw s0 s E z h H locs) (hz : s0.heap.size ≤ z.sz) (hc0 : s.heap.size + cells = z.sz) (hr : meth.sig.returnType = some .char) (hlk : meth.locks = false) (hd : decode cc pc = .ok (.ireturn, 1)) : W p l e R s m args below meth c H locs cells slots (Zt below s0 E z h (some (.int v)) args s cells slots) (F0 m pc ls [.int v]) :=
  W.sz (fun hH => W.zret B.1 B.2.1 hr (nar_c hv) (fun t ht hW => ⟨rfl, hw.toIn B hz hc0 hH ht hW, hw.2.1.F ht⟩) hw.2.1.2.2 hd hlk)
theorem q_bret {v : Int32} (hv : v = 0 ∨ v = 1) (B : Bd p s0 s E m c cc nL own) (hw : Pw s0 s E z h H locs) (hz : s0.heap.size ≤ z.sz) (hc0 : s.heap.size + cells = z.sz) (hr : meth.sig.returnType = some .byte) (hlk : meth.locks = false) (hd : decode cc pc = .ok (.ireturn, 1)) : W p l e R s m args below meth c H locs cells slots (Zt below s0 E z h (some (.int v)) args s cells slots) (F0 m pc ls [.int v]) :=
  W.sz (fun hH => W.zret B.1 B.2.1 hr (nar_b hv) (fun t ht hW => ⟨rfl, hw.toIn B hz hc0 hH ht hW, hw.2.1.F ht⟩) hw.2.1.2.2 hd hlk)
/-- a call on a String -/
theorem q_callVS {y : MethodName} {bytes : ByteArray} {maxL n fr lc b index : Nat} {ret : Option FieldType} {As st0 st1 : List Value} {r : Option Value} {h2 : Hp} (Cc : Ct l s0 E y bytes maxL ret fr lc (.ref b :: As) z h h2 r) (B : Bd p s0 s E m c cc nL own) (hw : Pw s0 s E z h H locs) (hz : s0.heap.size ≤ z.sz) (hc0 : s.heap.size + cells = z.sz) (hK : z.isS b = true) (hyC : y.cls = "java/lang/String") (hy : My y bytes maxL ret n) (hv : MyV y) (hl : Cond.methodLink own index y ∈ lw_tbl) (hR : fr + 1 ≤ R.frames ∧ 8 + (maxL + 11) + lc ≤ R.locals) (hcs : cells ≤ R.cells ∧ slots ≤ R.slots) (hn : As.length = n) (hls : ls.size = nL) (hst : st0 = As.reverse ++ .ref b :: rest) (hs1 : r.toList ++ rest = st1) (hrm : (rest.map fun v => v.category).sum ≤ 8) (hd : decode cc pc = .ok (.invokevirtual index, 3))
    (kk : ∀ (H1 : Heap) (locs1 : List Loc), Pw s0 s E z h2 H1 locs1 → W p l e R s m args below meth c H1 locs1 cells slots Q (F0 m (pc + 3) ls st1)) : W p l e R s m args below meth c H locs cells slots Q (F0 m pc ls st0) := by
  subst hs1
  refine W.sz (fun hH => ?_)
  have hts : ∀ w ∈ wsV own index "java/lang/String" y [Cond.code y bytes maxL ret], w.before args s = true := B.hts0 (fun w hw => by
    simp only [wsV, List.mem_append, List.mem_cons, List.not_mem_nil, or_false] at hw
    rcases hw with (rfl | rfl | rfl | rfl) | rfl
    · exact ⟨hl, rfl⟩
    · exact ⟨hv.1, rfl⟩
    · exact ⟨hyC ▸ hv.2, rfl⟩
    · exact ⟨hyC ▸ hy.2.1, rfl⟩
    · exact ⟨hy.1, rfl⟩)
  have hG : GoodIn (wsV own index "java/lang/String" y [Cond.code y bytes maxL ret]) (wsV own index "java/lang/String" y [Cond.code y bytes maxL ret]) := fun w hw => ⟨hw, by
    simp only [wsV, List.mem_append, List.mem_cons, List.not_mem_nil, or_false] at hw
    rcases hw with (rfl | rfl | rfl | rfl) | rfl <;> exact Or.inl rfl⟩
  have hrecv : ∃ cell : Cell, H[b]? = some cell ∧ cell.vm.isStatics = false ∧ s.vm.findClass "java/lang/String" = some cell.cls := by
    obtain ⟨cell, h1, h2, h3, -⟩ := (((hw.2.2.2.2.2.2.2 b hK).1.moved B.2.2.2.2.1.alike).kept B.keep).kept hw.2.1.2.1
    exact ⟨cell, h1, h2, h3⟩
  exact cl_go (va_runV (As := As) (rest := rest) ⟨B.1, B.2.1, B.2.2.1, B.2.2.2.1, hts⟩ Cc (cwV n hts hG rfl rfl rfl ⟨hyC, hy.2.2.1, hy.2.2.2.1, hy.2.2.2.2⟩ hR) ⟨fun a U g mk q => q, hrecv, (hw.pre B hz hc0 hH _).2⟩ rfl hn hls hst (lv_room hrm) hd ⟨by omega, by omega⟩) hw kk
end
/-! ===== cells that are made ===== -/
def Sh.al (z : Sh) (kd len sl : Nat) : Sh := (va_up z.1 z.sz kd, va_up z.2.1 z.sz len, z.sz + 1, z.sl + sl, z.2.2.2.2)
def Hp.nw (h : Hp) (a : Nat) : Hp := ((h.rowI a (fun _ => 0)).rowJ a (fun _ => 0)).rowR a (fun _ => none)
def nwO (z : Sh) (h : Hp) (ci : Nat) : Option (Nat × Hp × Sh) := some (z.sz, h.nw z.sz, z.al ci 0 (nf ci))
def kby (kd : Nat) : Nat := match kd with | 13 => 1 | 16 => 1 | 15 => 8 | _ => 4
def nwA (z : Sh) (h : Hp) (kd : Nat) (n : Int32) : Option (Nat × Hp × Sh) := if ¬ n < 0 ∧ n.toNatClampNeg * kby kd ≤ 536870912 then some (z.sz, h.nw z.sz, z.al kd n.toNatClampNeg n.toNatClampNeg) else none
def gd3 {α : Type} (z1 : Sh) (x : Option (α × Hp × Sh)) : Option (α × Hp × Sh) := x.bind fun q => if z1.sz ≤ q.2.2.sz ∧ z1.sl ≤ q.2.2.sl then some q else none
def gd2 (z1 : Sh) (x : Option (Hp × Sh)) : Option (Hp × Sh) := x.bind fun q => if z1.sz ≤ q.2.sz ∧ z1.sl ≤ q.2.sl then some q else none
theorem gd3_some {α : Type} {z1 : Sh} {x : Option (α × Hp × Sh)} {r : α} {h' : Hp} {zE : Sh} (hf : gd3 z1 x = some (r, h', zE)) : (z1.sz ≤ zE.sz ∧ z1.sl ≤ zE.sl) ∧ x = some (r, h', zE) := by
  obtain ⟨q, h1, h2⟩ := ob hf
  obtain ⟨h3, h4⟩ := if_some h2
  cases h4
  exact ⟨h3, h1⟩
theorem gd2_some {z1 : Sh} {x : Option (Hp × Sh)} {h' : Hp} {zE : Sh} (hf : gd2 z1 x = some (h', zE)) : (z1.sz ≤ zE.sz ∧ z1.sl ≤ zE.sl) ∧ x = some (h', zE) := by
  obtain ⟨q, h1, h2⟩ := ob hf
  obtain ⟨h3, h4⟩ := if_some h2
  cases h4
  exact ⟨h3, h1⟩
def rmA (fr lc : Nat) (z0 zE : Sh) : Room := { frames := fr, cells := zE.sz - z0.sz, slots := zE.sl - z0.sl, locals := lc }
def Mo (s0 s : State) (z0 z zE : Sh) : Prop := z0.sz ≤ z.sz ∧ z0.sl ≤ z.sl ∧ z.sz ≤ zE.sz ∧ z.sl ≤ zE.sl ∧ s.heap.size = z0.sz ∧ s0.heap.size ≤ z0.sz
theorem Mo.hz {s0 s : State} {z0 z zE : Sh} (hM : Mo s0 s z0 z zE) : s0.heap.size ≤ z.sz := Nat.le_trans hM.2.2.2.2.2 hM.1
theorem Mo.hc0 {s0 s : State} {z0 z zE : Sh} (hM : Mo s0 s z0 z zE) : s.heap.size + (z.sz - z0.sz) = z.sz := by
  have h1 := hM.1
  have h2 := hM.2.2.2.2.1
  omega
theorem Mo.hcs {s0 s : State} {z0 z zE : Sh} (hM : Mo s0 s z0 z zE) {fr lc : Nat} : z.sz - z0.sz ≤ (rmA fr lc z0 zE).cells ∧ z.sl - z0.sl ≤ (rmA fr lc z0 zE).slots := by
  have h1 := hM.2.2.1
  have h2 := hM.2.2.2.1
  exact ⟨by simp only [rmA]; omega, by simp only [rmA]; omega⟩
theorem Mo.go {s0 s : State} {z0 z z2 zE : Sh} (hM : Mo s0 s z0 z zE) (h1 : z.sz ≤ z2.sz ∧ z.sl ≤ z2.sl) (h2 : z2.sz ≤ zE.sz ∧ z2.sl ≤ zE.sl) : Mo s0 s z0 z2 zE := ⟨Nat.le_trans hM.1 h1.1, Nat.le_trans hM.2.1 h1.2, h2.1, h2.2, hM.2.2.2.2⟩
theorem pL_al (s0 : State) (z : Sh) (hz : s0.heap.size ≤ z.sz) (kd len sl : Nat) : pL s0 (z.al kd len sl) = pL s0 z ++ [z.sz] := by
  have e1 : (z.al kd len sl).sz = z.sz + 1 := rfl
  unfold pL
  rw [e1, show z.sz + 1 - s0.heap.size = (z.sz - s0.heap.size) + 1 by omega, List.range'_concat]
  congr 2
  omega
theorem al_K (z : Sh) (kd len sl : Nat) : (z.al kd len sl).K z.sz = kd := va_up_self _ _ _
theorem al_N (z : Sh) (kd len sl : Nat) : (z.al kd len sl).N z.sz = len := va_up_self _ _ _
theorem al_Kn (z : Sh) (kd len sl : Nat) {a : Nat} (ha : a ≠ z.sz) : (z.al kd len sl).K a = z.K a := va_up_ne _ _ ha
theorem al_Nn (z : Sh) (kd len sl : Nat) {a : Nat} (ha : a ≠ z.sz) : (z.al kd len sl).N a = z.N a := va_up_ne _ _ ha
theorem nw_I (h : Hp) (a : Nat) : (h.nw a).I a = fun _ => 0 := by simp [Hp.nw, Hp.rowI, Hp.rowJ, Hp.rowR, Hp.I, va_up]
theorem nw_J (h : Hp) (a : Nat) : (h.nw a).J a = fun _ => 0 := by simp [Hp.nw, Hp.rowI, Hp.rowJ, Hp.rowR, Hp.J, va_up]
theorem nw_R (h : Hp) (a : Nat) : (h.nw a).R a = fun _ => none := by simp [Hp.nw, Hp.rowI, Hp.rowJ, Hp.rowR, Hp.R, va_up]
theorem nw_In (h : Hp) {a b : Nat} (hb : b ≠ a) : (h.nw a).I b = h.I b := by simp [Hp.nw, Hp.rowI, Hp.rowJ, Hp.rowR, Hp.I, va_up, hb]
theorem nw_Jn (h : Hp) {a b : Nat} (hb : b ≠ a) : (h.nw a).J b = h.J b := by simp [Hp.nw, Hp.rowI, Hp.rowJ, Hp.rowR, Hp.J, va_up, hb]
theorem nw_Rn (h : Hp) {a b : Nat} (hb : b ≠ a) : (h.nw a).R b = h.R b := by simp [Hp.nw, Hp.rowI, Hp.rowJ, Hp.rowR, Hp.R, va_up, hb]
theorem cf_al (E : Ev) (z : Sh) (h : Hp) (kd len sl : Nat) {b : Nat} (hb : b ≠ z.sz) : cf E (z.al kd len sl) (h.nw z.sz) b = cf E z h b := by
  have e : obl (h.nw z.sz) (z.K b) b = obl h (z.K b) b := by
    simp only [obl]
    congr 1
    funext k
    simp only [fv, nw_In h hb, nw_Rn h hb]
  simp only [cf, al_Kn z kd len sl hb, al_Nn z kd len sl hb, nw_In h hb, nw_Jn h hb, nw_Rn h hb, e]
theorem Pw.al {s0 s : State} {E : Ev} {z : Sh} {h : Hp} {H H1 : Heap} {locs locs1 : List Loc} (hw : Pw s0 s E z h H locs) (hz : s0.heap.size ≤ z.sz) {kd len sl : Nat} (hkd : kd < 21) {e : va_E} (he : cf E (z.al kd len sl) (h.nw z.sz) z.sz = e) (hP : va_P E.D vwCl (va_pl (pL s0 z) (cf E z h) ++ [(z.sz, e)]) H1) (hS : va_S (Ax s0) s.heap H1 locs1) : Pw s0 s E (z.al kd len sl) (h.nw z.sz) H1 locs1 := by
  have hfr : ∀ a, a ∈ pL s0 z → a ≠ z.sz := fun a ha q => by have := (pL_in ha).2; omega
  have out : ∀ {ty : FieldType} {b N : Nat} {f : Nat → Value}, va_T ty b N f (Ax s0) s0 s0.heap → b ≠ z.sz := by
    intro ty b N f ht q
    obtain ⟨cell, h1, h2, h3, h4, h5, h6, h7⟩ := ht
    exact h7 (by rw [q]; exact hz)
  refine ⟨?_, hS, fun a ha => ?_, hw.2.2.2.1, fun a ha => ?_, fun a ha => ?_, fun a ha => ?_, fun a ha => ?_⟩
  rotate_right
  · have h1 := hw.2.2.2.2.2.2.2 a ha
    have q : a ≠ z.sz := fun q => by
      obtain ⟨cell, k1, k2, k3, k4⟩ := h1.1
      exact k4 (by rw [q]; exact hz)
    rw [nw_Rn h q]
    exact h1
  · rw [pL_al s0 z hz]
    have e1 : va_pl (pL s0 z ++ [z.sz]) (cf E (z.al kd len sl) (h.nw z.sz)) = va_pl (pL s0 z) (cf E z h) ++ [(z.sz, e)] := by
      simp only [va_pl, List.map_append, List.map_cons, List.map_nil, he]
      congr 1
      apply List.map_congr_left
      intro b hb
      rw [cf_al E z h kd len sl (hfr b hb)]
    rw [e1]
    exact hP
  · have e1 : (z.al kd len sl).sz = z.sz + 1 := rfl
    rw [e1]
    by_cases q : a = z.sz
    · omega
    · rw [al_Kn z kd len sl q] at ha
      have := hw.2.2.1 a ha
      omega
  all_goals
    have q : a ≠ z.sz := fun q => by
      rw [q, al_K] at ha
      omega
    rw [al_Kn z kd len sl q] at ha
  · rw [al_Nn z kd len sl q, nw_In h q]
    exact hw.2.2.2.2.1 a ha
  · rw [al_Nn z kd len sl q, nw_In h q]
    exact hw.2.2.2.2.2.1 a ha
  · rw [al_Nn z kd len sl q, nw_Jn h q]
    exact hw.2.2.2.2.2.2.1 a ha
/-- the address of what was made is the next one -/
theorem nw_at {s0 s : State} {E : Ev} {z : Sh} {h : Hp} {H1 : Heap} {q : Nat} {e : va_E} {k : Nat} (hz : s0.heap.size ≤ z.sz) (hP : va_P E.D vwCl (va_pl (pL s0 z) (cf E z h) ++ [(q, e)]) H1) (hD : va_D (Ax s0) (va_pl (pL s0 z) (cf E z h) ++ [(q, e)])) (hH : H1.size ≤ s.heap.size + k) (hc : s.heap.size + k = z.sz + 1) : q = z.sz := by
  have hl : (va_pl (pL s0 z) (cf E z h) ++ [(q, e)])[(va_pl (pL s0 z) (cf E z h)).length]? = some (q, e) := by
    rw [List.getElem?_append_right (Nat.le_refl _), Nat.sub_self]
    rfl
  have h1 := (hP _ _ hl).lt
  have h2 : s0.heap.size ≤ q := hD.2 _ _ hl
  simp only at h1
  rcases Nat.lt_or_ge q z.sz with h3 | h3
  · exfalso
    obtain ⟨j, hj⟩ := va_pl_get (X := []) (f := cf E z h) (pL_mem h2 h3)
    rw [List.nil_append] at hj
    have hj2 := (List.getElem?_eq_some_iff.mp hj).1
    have h4 : (va_pl (pL s0 z) (cf E z h) ++ [(q, e)])[j]? = some (q, cf E z h q) := by
      rw [List.getElem?_append_left hj2]
      exact hj
    have := hD.1 _ _ _ _ hl h4 rfl
    omega
  · omega
section
variable {p : Program} {l : Launch} {e : Env} {s : State} {m : MethodId} {args : Array Value} {below : List Frame} {meth : Method} {c : Code} {H : Heap} {locs : List Loc} {Q : State → Prop} {pc : Nat} {ls : Array Slot} {rest : List Value} {s0 : State} {E : Ev} {z z0 zE : Sh} {h : Hp} {cc : ByteArray} {nL : Nat} {own : String} {fr lc : Nat}
theorem obl_nw (h : Hp) (ci a : Nat) : ∀ j, j < nf ci → vp_V (obl (h.nw a) ci a) j = if rb ci j then .null else .int 0 := by
  intro j hj
  have h1 : (obl (h.nw a) ci a)[j]? = some (fv (h.nw a) ci a j) := obl_get _ _ _ hj
  rw [vp_V, List.getD_eq_getElem?_getD, h1]
  simp only [Option.getD_some, fv, nw_I, nw_R]
  rfl
theorem q_newO {ci N index a2 : Nat} {C : String} {T : u_T} {h2 : Hp} {z2 : Sh} (hv : nwO z h ci = some (a2, h2, z2)) (hg : z2.sz ≤ zE.sz ∧ z2.sl ≤ zE.sl) (B : Bd p s0 s E m c cc nL own) (hw : Pw s0 s E z h H locs) (hM : Mo s0 s z0 z zE) (hci : ci < 13) (hc : vwCl[ci]? = some (C, T, N)) (hN : nf ci = N) (ty : Nat → FieldType) (hty : ∀ k, k < N → parseFieldDescriptor (T k).2.2.1 = some (ty k)) (hdf : ∀ j, j < N → defaultValue (ty j) = if rb ci j then .null else .int 0) (hcl : Cond.classLink own index C ∈ lw_tbl) (hinst : Cond.instantiable C N ∈ lw_tbl) (hini : Cond.initialized C ∈ lw_tbl) (hd : decode cc pc = .ok (.new index, 3))
    (kk : ∀ (H1 : Heap) (locs1 : List Loc), Pw s0 s E z2 h2 H1 locs1 → Mo s0 s z0 z2 zE → W p l e (rmA fr lc z0 zE) s m args below meth c H1 locs1 (z2.sz - z0.sz) (z2.sl - z0.sl) Q (F0 m (pc + 3) ls (.ref a2 :: rest))) : W p l e (rmA fr lc z0 zE) s m args below meth c H locs (z.sz - z0.sz) (z.sl - z0.sl) Q (F0 m pc ls rest) := by
  cases hv
  have b1 : (z.al ci 0 (nf ci)).sz = z.sz + 1 := rfl
  have b2 : (z.al ci 0 (nf ci)).sl = z.sl + nf ci := rfl
  have hM2 : Mo s0 s z0 (z.al ci 0 (nf ci)) zE := hM.go ⟨by omega, by omega⟩ hg
  have m1 := hM.1
  have m2 := hM.2.1
  refine va_new (ci := ci) (fs := obl (h.nw z.sz) ci z.sz) B.1 B.2.1 (B.u hc) (fun _ q => q) ty hty B.2.2.2.1 (B.w hcl rfl) (B.w hinst rfl) (B.w hini rfl) B.K hw.1 (pL_D s0 z _) hw.2.1 (fun q hq => Nat.le_trans (Nat.le_trans hM.2.2.2.2.2 (Nat.le_of_eq hM.2.2.2.2.1.symm)) hq) hc (fun j hj => by rw [hdf j hj, obl_nw h ci z.sz j (by omega)]) (by simp only [rmA]; omega) (by simp only [rmA]; omega) hd (fun q H1 hP hD hS => ?_)
  refine W.sz (fun hH => ?_)
  have hq : q = z.sz := nw_at (s := s) hM.hz hP hD hH (by have := hM.hc0; omega)
  subst hq
  have e1 : z.sz - z0.sz + 1 = (z.al ci 0 (nf ci)).sz - z0.sz := by omega
  have e2 : z.sl - z0.sl + N = (z.al ci 0 (nf ci)).sl - z0.sl := by omega
  rw [e1, e2]
  exact kk H1 _ (hw.al hM.hz (by omega) (cf_o (al_K z ci 0 _) hci) hP hS) hM2
/-- the array classes have one number each -/
theorem cy_eq {U : State} {ty : FieldType} {a b : ClassId} (h1 : va_RA U a ty) (h2 : va_RA U b ty) : a = b := by
  cases ty with
  | object C =>
    obtain ⟨k1, c1, x1, x2, x3, x4⟩ := h1
    obtain ⟨k2, c2, y1, y2, y3, y4⟩ := h2
    exact Option.some.inj (x4.symm.trans y4)
  | _ => exact Option.some.inj (h1.symm.trans h2)
theorem q_newA {kd a2 t0 : Nat} {n : Int32} {h2 : Hp} {z2 : Sh} {atype : ArrayType} {ty : FieldType} (hv : nwA z h kd n = some (a2, h2, z2)) (hg : z2.sz ≤ zE.sz ∧ z2.sl ≤ zE.sl) (B : Bd p s0 s E m c cc nL own) (hw : Pw s0 s E z h H locs) (hM : Mo s0 s z0 z zE) (hkd : kd < 21) (hty : newarray.typeOf atype = ty) (hby : kby kd = componentBytes ty) (ht : (tysE E)[t0]? = some (E.cy kd, ty)) {a0 : Nat → vp_A} (hc0 : ∀ N, cf E (z.al kd N N) (h.nw z.sz) z.sz = .inl (E.cy kd, a0 N)) (ha : ∀ (N : Nat) (cA : ClassId), vp_cell cA (a0 N) = arrV cA N (fun _ => defaultValue ty)) (harr : Cond.arrayClass (newarray.typeOf atype) ∈ lw_tbl) (hd : decode cc pc = .ok (.newarray atype, 2))
    (kk : ∀ (H1 : Heap) (locs1 : List Loc), Pw s0 s E z2 h2 H1 locs1 → Mo s0 s z0 z2 zE → W p l e (rmA fr lc z0 zE) s m args below meth c H1 locs1 (z2.sz - z0.sz) (z2.sl - z0.sl) Q (F0 m (pc + 2) ls (.ref a2 :: rest))) : W p l e (rmA fr lc z0 zE) s m args below meth c H locs (z.sz - z0.sz) (z.sl - z0.sl) Q (F0 m pc ls (.int n :: rest)) := by
  obtain ⟨⟨hn, hb⟩, hv⟩ := if_some hv
  cases hv
  generalize eN : n.toNatClampNeg = N' at *
  have b1 : (z.al kd N' N').sz = z.sz + 1 := rfl
  have b2 : (z.al kd N' N').sl = z.sl + N' := rfl
  have hM2 : Mo s0 s z0 (z.al kd N' N') zE := hM.go ⟨by omega, by omega⟩ hg
  have m1 := hM.1
  have m2 := hM.2.1
  refine va_newa B.1 B.2.1 (B.w harr rfl) hty B.K hw.1 (pL_D s0 z _) hw.2.1 (fun q hq => Nat.le_trans (Nat.le_trans hM.2.2.2.2.2 (Nat.le_of_eq hM.2.2.2.2.1.symm)) hq) (ha N') hn eN (by rw [← hby]; exact hb) (by simp only [rmA]; omega) (by simp only [rmA]; omega) hd (fun q cA H1 hK hP hD hS => ?_)
  refine W.sz (fun hH => ?_)
  have hq : q = z.sz := nw_at (s := s) hM.hz hP hD hH (by have := hM.hc0; omega)
  subst hq
  have hcy : cA = E.cy kd := cy_eq (hK.2 8 (cA, ty) rfl).2 (B.K.2 t0 _ ht).2
  subst hcy
  have e1 : z.sz - z0.sz + 1 = (z.al kd N' N').sz - z0.sz := by omega
  have e2 : z.sl - z0.sl + N' = (z.al kd N' N').sl - z0.sl := by omega
  rw [e1, e2]
  exact kk H1 _ (hw.al hM.hz hkd (hc0 N') hP hS) hM2
theorem q_newQ {kd a2 t0 index : Nat} {n : Int32} {h2 : Hp} {z2 : Sh} {C : String} (hv : nwA z h kd n = some (a2, h2, z2)) (hg : z2.sz ≤ zE.sz ∧ z2.sl ≤ zE.sl) (B : Bd p s0 s E m c cc nL own) (hw : Pw s0 s E z h H locs) (hM : Mo s0 s z0 z zE) (hkd : 17 ≤ kd) (hkd2 : kd < 21) (hby : kby kd = 4) (ht : (tysE E)[t0]? = some (E.cy kd, .object C)) (hcl : Cond.classLink own index C ∈ lw_tbl) (hover : va_AO C s) (hd : decode cc pc = .ok (.anewarray index, 3))
    (kk : ∀ (H1 : Heap) (locs1 : List Loc), Pw s0 s E z2 h2 H1 locs1 → Mo s0 s z0 z2 zE → W p l e (rmA fr lc z0 zE) s m args below meth c H1 locs1 (z2.sz - z0.sz) (z2.sl - z0.sl) Q (F0 m (pc + 3) ls (.ref a2 :: rest))) : W p l e (rmA fr lc z0 zE) s m args below meth c H locs (z.sz - z0.sz) (z.sl - z0.sl) Q (F0 m pc ls (.int n :: rest)) := by
  obtain ⟨⟨hn, hb⟩, hv⟩ := if_some hv
  cases hv
  generalize eN : n.toNatClampNeg = N' at *
  have b1 : (z.al kd N' N').sz = z.sz + 1 := rfl
  have b2 : (z.al kd N' N').sl = z.sl + N' := rfl
  have hM2 : Mo s0 s z0 (z.al kd N' N') zE := hM.go ⟨by omega, by omega⟩ hg
  have m1 := hM.1
  have m2 := hM.2.1
  refine va_newq B.1 B.2.1 B.2.2.2.1 (B.w hcl rfl) hover B.K hw.1 (pL_D s0 z _) hw.2.1 (fun q hq => Nat.le_trans (Nat.le_trans hM.2.2.2.2.2 (Nat.le_of_eq hM.2.2.2.2.1.symm)) hq) hn eN (by rw [← hby]; exact hb) (by simp only [rmA]; omega) (by simp only [rmA]; omega) hd (fun q cA H1 hK hP hD hS => ?_)
  refine W.sz (fun hH => ?_)
  have hq : q = z.sz := nw_at (s := s) hM.hz hP hD hH (by have := hM.hc0; omega)
  subst hq
  have hcy : cA = E.cy kd := cy_eq (hK.2 8 (cA, .object C) rfl).2 (B.K.2 t0 _ ht).2
  subst hcy
  have e1 : z.sz - z0.sz + 1 = (z.al kd N' N').sz - z0.sz := by omega
  have e2 : z.sl - z0.sl + N' = (z.al kd N' N').sl - z0.sl := by omega
  rw [e1, e2]
  exact kk H1 _ (hw.al hM.hz hkd2 (by rw [cf_r (al_K z kd N' N') hkd, al_N, nw_R]) hP hS) hM2
/-- behind a call that made cells -/
theorem cl_goA {R : Room} {cells slots : Nat} {st0 : List Value} {aa : Array Value} {r : Option Value} {h2 : Hp} {z2 : Sh} {mc ms : Nat} (hr : va_Run p l e R s m args below meth c H locs cells slots mc ms (F0 m pc ls st0) rest (Qt s0 E z2 h2 r aa) (Ax s0)) (hw : Pw s0 s E z h H locs)
    (kk : ∀ (H1 : Heap) (locs1 : List Loc), Pw s0 s E z2 h2 H1 locs1 → W p l e R s m args below meth c H1 locs1 (cells + mc) (slots + ms) Q (F0 m (pc + 3) ls (r.toList ++ rest))) : W p l e R s m args below meth c H locs cells slots Q (F0 m pc ls st0) := by
  intro T hT X
  obtain ⟨v, st₀, t, T', L, h0, X', hL, e1, e2, ⟨hv, hIn, hz, hk⟩, st⟩ := hr T hT X
  cases hv
  rw [h0] at hz hk
  obtain ⟨t2, a1, b1⟩ := kk T'.heap (locs ++ L) ⟨by rw [e1]; exact hIn.2.2.2.2.1, ⟨Nat.le_trans hw.2.1.1 (by rw [e1]; exact hz), fun q h1 h2 => by rw [e1, hk q (Nat.lt_of_lt_of_le h1 hw.2.1.1) h2]; exact hw.2.1.2.1 q h1 h2, fun q hq => by
      rcases List.mem_append.mp hq with h | h
      · exact hw.2.1.2.2 q h
      · exact hL q h⟩, hIn.2.2.2.2.2⟩ T' rfl X'
  exact ⟨t2, st t2 a1, b1⟩
theorem q_callVA {y : MethodName} {bytes : ByteArray} {maxL n fr1 lc1 b ci N index : Nat} {ret : Option FieldType} {As st0 st1 : List Value} {r : Option Value} {h2 : Hp} {z2 : Sh} {C : String} {T : u_T} (Cc : Ca l s0 E y bytes maxL ret fr1 lc1 (.ref b :: As) z z2 h h2 r) (hmo : z.sz ≤ z2.sz ∧ z.sl ≤ z2.sl) (hg : z2.sz ≤ zE.sz ∧ z2.sl ≤ zE.sl) (B : Bd p s0 s E m c cc nL own) (hw : Pw s0 s E z h H locs) (hM : Mo s0 s z0 z zE) (hK : z.K b = ci) (hci : ci < 13) (hc : vwCl[ci]? = some (C, T, N)) (hyC : y.cls = C) (hy : My y bytes maxL ret n) (hv : MyV y) (hl : Cond.methodLink own index y ∈ lw_tbl) (hR : fr1 + 1 ≤ fr ∧ 8 + (maxL + 11) + lc1 ≤ lc) (hn : As.length = n) (hls : ls.size = nL) (hst : st0 = As.reverse ++ .ref b :: rest) (hs1 : r.toList ++ rest = st1) (hrm : (rest.map fun v => v.category).sum ≤ 8) (hd : decode cc pc = .ok (.invokevirtual index, 3))
    (kk : ∀ (H1 : Heap) (locs1 : List Loc), Pw s0 s E z2 h2 H1 locs1 → Mo s0 s z0 z2 zE → W p l e (rmA fr lc z0 zE) s m args below meth c H1 locs1 (z2.sz - z0.sz) (z2.sl - z0.sl) Q (F0 m (pc + 3) ls st1)) : W p l e (rmA fr lc z0 zE) s m args below meth c H locs (z.sz - z0.sz) (z.sl - z0.sl) Q (F0 m pc ls st0) := by
  subst hs1
  refine W.sz (fun hH => ?_)
  have hM2 : Mo s0 s z0 z2 zE := hM.go hmo hg
  have m1 := hM.1
  have m2 := hM.2.1
  have hP := hw.at (a := b) (by omega)
  rw [cf_o hK hci] at hP
  have hts : ∀ w ∈ wsV own index C y [Cond.code y bytes maxL ret], w.before args s = true := B.hts0 (fun w hw => by
    simp only [wsV, List.mem_append, List.mem_cons, List.not_mem_nil, or_false] at hw
    rcases hw with (rfl | rfl | rfl | rfl) | rfl
    · exact ⟨hl, rfl⟩
    · exact ⟨hv.1, rfl⟩
    · exact ⟨hyC ▸ hv.2, rfl⟩
    · exact ⟨hyC ▸ hy.2.1, rfl⟩
    · exact ⟨hy.1, rfl⟩)
  have hG : GoodIn (wsV own index C y [Cond.code y bytes maxL ret]) (wsV own index C y [Cond.code y bytes maxL ret]) := fun w hw => ⟨hw, by
    simp only [wsV, List.mem_append, List.mem_cons, List.not_mem_nil, or_false] at hw
    rcases hw with (rfl | rfl | rfl | rfl) | rfl <;> exact Or.inl rfl⟩
  have e1 : z.sz - z0.sz + (z2.sz - z.sz) = z2.sz - z0.sz := by omega
  have e2 : z.sl - z0.sl + (z2.sl - z.sl) = z2.sl - z0.sl := by omega
  refine cl_goA (va_runV (As := As) (rest := rest) ⟨B.1, B.2.1, B.2.2.1, B.2.2.2.1, hts⟩ Cc (cwV n hts hG rfl rfl rfl ⟨hyC, hy.2.2.1, hy.2.2.2.1, hy.2.2.2.2⟩ hR) ⟨fun a U g mk q => q, va_recv B.K hP hc (q0 := 0) rfl, (hw.pre B hM.hz hM.hc0 hH _).2⟩ rfl hn hls hst (lv_room hrm) hd ⟨by simp only [rmA]; omega, by simp only [rmA]; omega⟩) hw (fun H1 locs1 hw1 => ?_)
  rw [e1, e2]
  exact kk H1 locs1 hw1 hM2
theorem q_callVNA {y : MethodName} {bytes : ByteArray} {maxL n fr1 lc1 b ci N index : Nat} {ret : Option FieldType} {As st0 st1 : List Value} {r : Option Value} {h2 : Hp} {z2 : Sh} {C host : String} {T : u_T} (Cc : Ca l s0 E y bytes maxL ret fr1 lc1 (.ref b :: As) z z2 h h2 r) (hmo : z.sz ≤ z2.sz ∧ z.sl ≤ z2.sl) (hg : z2.sz ≤ zE.sz ∧ z2.sl ≤ zE.sl) (B : Bd p s0 s E m c cc nL own) (hw : Pw s0 s E z h H locs) (hM : Mo s0 s z0 z zE) (hK : z.K b = ci) (hci : ci < 13) (hc : vwCl[ci]? = some (C, T, N)) (hyC : y.cls = C) (hy : My y bytes maxL ret n) (hv : MyV y) (hl : Cond.methodLinkNest own index y host ∈ lw_tbl) (hR : fr1 + 1 ≤ fr ∧ 8 + (maxL + 11) + lc1 ≤ lc) (hn : As.length = n) (hls : ls.size = nL) (hst : st0 = As.reverse ++ .ref b :: rest) (hs1 : r.toList ++ rest = st1) (hrm : (rest.map fun v => v.category).sum ≤ 8) (hd : decode cc pc = .ok (.invokevirtual index, 3))
    (kk : ∀ (H1 : Heap) (locs1 : List Loc), Pw s0 s E z2 h2 H1 locs1 → Mo s0 s z0 z2 zE → W p l e (rmA fr lc z0 zE) s m args below meth c H1 locs1 (z2.sz - z0.sz) (z2.sl - z0.sl) Q (F0 m (pc + 3) ls st1)) : W p l e (rmA fr lc z0 zE) s m args below meth c H locs (z.sz - z0.sz) (z.sl - z0.sl) Q (F0 m pc ls st0) := by
  subst hs1
  refine W.sz (fun hH => ?_)
  have hM2 : Mo s0 s z0 z2 zE := hM.go hmo hg
  have m1 := hM.1
  have m2 := hM.2.1
  have hP := hw.at (a := b) (by omega)
  rw [cf_o hK hci] at hP
  have hts : ∀ w ∈ [Cond.code y bytes maxL ret], w.before args s = true := B.hts0 (fun w hw => by
    rw [List.mem_singleton] at hw
    subst hw
    exact ⟨hy.1, rfl⟩)
  have hG : GoodIn [Cond.code y bytes maxL ret] [Cond.code y bytes maxL ret] := fun w hw => ⟨hw, by
    rw [List.mem_singleton] at hw
    subst hw
    exact Or.inl rfl⟩
  have e1 : z.sz - z0.sz + (z2.sz - z.sz) = z2.sz - z0.sz := by omega
  have e2 : z.sl - z0.sl + (z2.sl - z.sl) = z2.sl - z0.sl := by omega
  refine cl_goA (va_runVN (C := C) (As := As) (rest := rest) ⟨B.1, B.2.1, B.2.2.1, B.2.2.2.1, hts⟩ Cc ⟨va_cnB n hts hG rfl rfl rfl (B.nM hl) (B.w hy.2.1 rfl) ⟨hy.2.2.1, hy.2.2.2.1, hy.2.2.2.2⟩ hR, B.w hv.1 rfl, B.w (hyC ▸ hv.2) rfl⟩ ⟨fun a U g mk q => q, va_recv B.K hP hc (q0 := 0) rfl, (hw.pre B hM.hz hM.hc0 hH _).2⟩ rfl hn hls hst (lv_room hrm) hd ⟨by simp only [rmA]; omega, by simp only [rmA]; omega⟩) hw (fun H1 locs1 hw1 => ?_)
  rw [e1, e2]
  exact kk H1 locs1 hw1 hM2
/-- a constructor of a nest mate -/
theorem q_callINA {y : MethodName} {bytes : ByteArray} {maxL n fr1 lc1 b index : Nat} {As st0 : List Value} {h2 : Hp} {z2 : Sh} {host : String} (Cc : Ca l s0 E y bytes maxL none fr1 lc1 (.ref b :: As) z z2 h h2 none) (hmo : z.sz ≤ z2.sz ∧ z.sl ≤ z2.sl) (hg : z2.sz ≤ zE.sz ∧ z2.sl ≤ zE.sl) (B : Bd p s0 s E m c cc nL own) (hw : Pw s0 s E z h H locs) (hM : Mo s0 s z0 z zE) (hyn : y.name = "<init>") (hy : My y bytes maxL none n) (hv : Cond.instanceMethod y ∈ lw_tbl) (hl : Cond.methodLinkNest own index y host ∈ lw_tbl) (hR : fr1 + 1 ≤ fr ∧ 8 + (maxL + 11) + lc1 ≤ lc) (hn : As.length = n) (hls : ls.size = nL) (hst : st0 = As.reverse ++ .ref b :: rest) (hrm : (rest.map fun v => v.category).sum ≤ 8) (hd : decode cc pc = .ok (.invokespecial index, 3))
    (kk : ∀ (H1 : Heap) (locs1 : List Loc), Pw s0 s E z2 h2 H1 locs1 → Mo s0 s z0 z2 zE → W p l e (rmA fr lc z0 zE) s m args below meth c H1 locs1 (z2.sz - z0.sz) (z2.sl - z0.sl) Q (F0 m (pc + 3) ls rest)) : W p l e (rmA fr lc z0 zE) s m args below meth c H locs (z.sz - z0.sz) (z.sl - z0.sl) Q (F0 m pc ls st0) := by
  refine W.sz (fun hH => ?_)
  have hM2 : Mo s0 s z0 z2 zE := hM.go hmo hg
  have m1 := hM.1
  have m2 := hM.2.1
  have hts : ∀ w ∈ [Cond.code y bytes maxL none], w.before args s = true := B.hts0 (fun w hw => by
    rw [List.mem_singleton] at hw
    subst hw
    exact ⟨hy.1, rfl⟩)
  have hG : GoodIn [Cond.code y bytes maxL none] [Cond.code y bytes maxL none] := fun w hw => ⟨hw, by
    rw [List.mem_singleton] at hw
    subst hw
    exact Or.inl rfl⟩
  have e1 : z.sz - z0.sz + (z2.sz - z.sz) = z2.sz - z0.sz := by omega
  have e2 : z.sl - z0.sl + (z2.sl - z.sl) = z2.sl - z0.sl := by omega
  refine cl_goA (va_runIN (As := As) (rest := rest) ⟨B.1, B.2.1, B.2.2.1, B.2.2.2.1, hts⟩ Cc ⟨va_cnB n hts hG rfl rfl rfl (B.nM hl) (B.w hy.2.1 rfl) ⟨hy.2.2.1, hy.2.2.2.1, hy.2.2.2.2⟩ hR, hyn, B.w hv rfl⟩ (hw.pre B hM.hz hM.hc0 hH _) rfl hn hls hst (lv_room hrm) hd ⟨by simp only [rmA]; omega, by simp only [rmA]; omega⟩) hw (fun H1 locs1 hw1 => ?_)
  rw [e1, e2]
  exact kk H1 locs1 hw1 hM2
/-- a static of another class that makes cells -/
theorem q_callSA {y : MethodName} {bytes : ByteArray} {maxL n fr1 lc1 index : Nat} {ret : Option FieldType} {As st0 st1 : List Value} {r : Option Value} {h2 : Hp} {z2 : Sh} (Cc : Ca l s0 E y bytes maxL ret fr1 lc1 As z z2 h h2 r) (hmo : z.sz ≤ z2.sz ∧ z.sl ≤ z2.sl) (hg : z2.sz ≤ zE.sz ∧ z2.sl ≤ zE.sl) (B : Bd p s0 s E m c cc nL own) (hw : Pw s0 s E z h H locs) (hM : Mo s0 s z0 z zE) (hy : My y bytes maxL ret n) (hv : Cond.static y ∈ lw_tbl) (hl : Cond.methodLink own index y ∈ lw_tbl) (hR : fr1 + 1 ≤ fr ∧ 8 + (maxL + 11) + lc1 ≤ lc) (hn : As.length = n) (hls : ls.size = nL) (hst : st0 = As.reverse ++ rest) (hs1 : r.toList ++ rest = st1) (hrm : (rest.map fun v => v.category).sum ≤ 8) (hd : decode cc pc = .ok (.invokestatic index, 3))
    (kk : ∀ (H1 : Heap) (locs1 : List Loc), Pw s0 s E z2 h2 H1 locs1 → Mo s0 s z0 z2 zE → W p l e (rmA fr lc z0 zE) s m args below meth c H1 locs1 (z2.sz - z0.sz) (z2.sl - z0.sl) Q (F0 m (pc + 3) ls st1)) : W p l e (rmA fr lc z0 zE) s m args below meth c H locs (z.sz - z0.sz) (z.sl - z0.sl) Q (F0 m pc ls st0) := by
  subst hs1
  refine W.sz (fun hH => ?_)
  have hM2 : Mo s0 s z0 z2 zE := hM.go hmo hg
  have m1 := hM.1
  have m2 := hM.2.1
  have hts : ∀ w ∈ va_wsS own index y [Cond.code y bytes maxL ret], w.before args s = true := B.hts0 (fun w hw => by
    simp only [va_wsS, List.mem_append, List.mem_cons, List.not_mem_nil, or_false] at hw
    rcases hw with (rfl | rfl | rfl) | rfl
    · exact ⟨hl, rfl⟩
    · exact ⟨hv, rfl⟩
    · exact ⟨hy.2.1, rfl⟩
    · exact ⟨hy.1, rfl⟩)
  have hG : GoodIn (va_wsS own index y [Cond.code y bytes maxL ret]) (va_wsS own index y [Cond.code y bytes maxL ret]) := fun w hw => ⟨hw, by
    simp only [va_wsS, List.mem_append, List.mem_cons, List.not_mem_nil, or_false] at hw
    rcases hw with (rfl | rfl | rfl) | rfl <;> exact Or.inl rfl⟩
  have e1 : z.sz - z0.sz + (z2.sz - z.sz) = z2.sz - z0.sz := by omega
  have e2 : z.sl - z0.sl + (z2.sl - z.sl) = z2.sl - z0.sl := by omega
  refine cl_goA (va_runS (As := As) (rest := rest) ⟨B.1, B.2.1, B.2.2.1, B.2.2.2.1, hts⟩ Cc (va_cwS n hts hG rfl rfl rfl ⟨hy.2.2.1, hy.2.2.2.1, hy.2.2.2.2⟩ hR) (hw.pre B hM.hz hM.hc0 hH _) rfl hn hls hst (lv_room hrm) hd ⟨by simp only [rmA]; omega, by simp only [rmA]; omega⟩) hw (fun H1 locs1 hw1 => ?_)
  rw [e1, e2]
  exact kk H1 locs1 hw1 hM2
/-- entry of a method that makes cells -/
theorem Ca.of {y : MethodName} {ret : Option FieldType} {As : List Value} {h' : Hp} {r : Option Value} (G : Gl s0 E) (hy : plainFor y = true) (hn : (lg_sl As).length ≤ nL) (hg : z.sz ≤ zE.sz ∧ z.sl ≤ zE.sl)
    (body : ∀ (p : Program) (e : Env) (s : State) (m : MethodId) (below : List Frame) (meth : Method) (c : Code) (ls : Array Slot), Bd p s0 s E m c cc nL y.cls → Pw s0 s E z h s.heap [] → Mo s0 s z z zE → meth.sig.returnType = ret → meth.locks = false → meth.name = y.name → lv_has ls nL (lv_args 0 As) →
      W p l e (rmA fr lc z zE) s m As.toArray below meth c s.heap [] (z.sz - z.sz) (z.sl - z.sl) (Zt below s0 E zE h' r As.toArray s (zE.sz - z.sz) (zE.sl - z.sl)) (F0 m 0 ls [])) : Ca l s0 E y cc nL ret fr lc As z zE h h' r := by
  refine va_MetF (cc := cc) (maxL := nL) (ret := ret) hy rfl ?_
  intro p e s m args below meth c s₁ B hml hv
  obtain ⟨rfl, hI⟩ := hv
  have hown : s.vm.findClass y.cls = some m.cls := findClass_of_methodNamed B.named
  rw [lg_entry_eq]
  have hb := body p e s m below meth c _ ⟨B.exec, B.bytes, hml, hown, hI.2.2.1, G, hI.2.2.2.1, by have := hI.1; have := hI.2.1; omega⟩ ⟨hI.2.2.2.2.1, va_S.rf, hI.2.2.2.2.2⟩ ⟨Nat.le_refl _, Nat.le_refl _, hg.1, hg.2, hI.1, hI.2.1⟩ B.returns B.notSynchronized (name_of_methodNamed B.named B.method).1 (lv_entry As hn)
  rw [Nat.sub_self, Nat.sub_self] at hb
  exact hb
end
