/-! THE CLAIM OUT OF ONE WALK OF THE LAW'S BODY. Your part is whole_start (and what it stands on); all else here is the same for every law, but numbers. -/
def R_law : String := "SecondLifeLaw"
def lw_P (b : Addr) (xs : List Int32) (args : Array Value) (s : State) : Prop := args = #[.ref b] ∧ s.IntsAt b xs ∧ xs.length ≤ 3072 ∧ (Jvm.Cond.and given_1 narrow_1).before args s = true
def lw_Q (_ : Array Value) (s : State) (o : Outcome) (t : State) : Prop := o = .returned (some (.int 1)) ∧ Framed s o t [] 600000 7302249
def lw_Z (below : List Frame) (a : Array Value) (s : State) : State → Prop := fun t => ∃ o, t.status = .running ∧ Ended t below o ∧ lw_Q a s o t
/-- the law's own end, with 1 on the stack, nothing written that was there before, its room as the claim has it -/
theorem lw_ret {p : Program} {l : Launch} {e : Env} {s : State} {m : MethodId} {below : List Frame} {meth : Method} {c : Code} {b : Nat} (hx : p.tables.exec = Jvm.exec) (hb : c.code = code) (hr : meth.sig.returnType = ret) (hlocks : meth.locks = false) {pc : Nat} {H : Heap} {ls : Array Slot} (hdg : decode code pc = .ok (.ireturn, 1)) : W p l e room_1 s m #[Value.ref b] below meth c H [] 600000 7302249 (lw_Z below #[Value.ref b] s) (F0 m pc ls [.int 1]) := by
  intro T hT X
  obtain ⟨fs, hret, hrun, hended, hW, hframe⟩ := X.leave (v := some (.int 1)) (hlocks := hlocks) (fun h => by rw [hr] at h; cases h)
  have hmeth' : T.vm.method? m = some meth := X.method'
  refine ⟨T.setFrames fs, ?_, .returned (some (.int 1)), hrun, hended, rfl, ⟨_, rfl⟩, hW, hframe⟩
  jvm_step X.here [X.here.top, hx, hb, hdg, hmeth', hr, ret, narrow_b1]
  (try refine ⟨rfl, ?_⟩); (try refine ⟨rfl, ?_⟩)
  first | (intro acts; rw [hret _ acts rfl rfl rfl]) | rw [hret _ _ rfl rfl rfl]
  exact Steps.refl _
/-- what holds at the law's entry: the machine, the code, the tables' words (any of lw_tbl by 'hts w (by decide +kernel)'), the script of L ints xs at the cell b, what the Statement gives of the start (any of its parts by flat_of_before) -/
def lw_At (p : Program) (s : State) (m : MethodId) (meth : Method) (c : Code) (b L : Nat) (xs : Nat → Int32) : Prop :=
  p.tables.exec = Jvm.exec ∧ c.code = code ∧ meth.sig.returnType = ret ∧ c.maxLocals = 4 ∧ s.vm.findClass R_law = some m.cls ∧ (∀ w ∈ lw_tbl, w.before #[Value.ref b] s = true) ∧ va_X b L xs s s.heap ∧ b < s.heap.size ∧ meth.locks = false ∧ (Jvm.Cond.and given_1 narrow_1).before #[Value.ref b] s = true
def zLim (z0 : Sh) : Sh := (z0.1, z0.2.1, z0.sz + 600000, z0.sl + 7302249, z0.2.2.2.2)
theorem rmL (z0 : Sh) : rmA 2048 84000 z0 (zLim z0) = room_1 := by
  have b1 : (zLim z0).sz = z0.sz + 600000 := rfl
  have b2 : (zLim z0).sl = z0.sl + 7302249 := rfl
  simp only [rmA, room_1, b1, b2, Nat.add_sub_cancel_left]
def gdL {α : Type} (z0 z2 : Sh) (x : Option α) : Option α := if z2.sz ≤ z0.sz + 600000 ∧ z2.sl ≤ z0.sl + 7302249 then x else none
theorem gdL_some {α : Type} {z0 z2 : Sh} {x : Option α} {v : α} (hf : gdL z0 z2 x = some v) : (z2.sz ≤ (zLim z0).sz ∧ z2.sl ≤ (zLim z0).sl) ∧ x = some v := if_some hf
/-- the script's ints -/
def sc (L : Nat) (xs : Nat → Int32) (i : Int32) : Option Int32 := if ¬ (i < 0 ∨ L ≤ i.toNatClampNeg) then some (xs i.toNatClampNeg) else none
section
variable {p : Program} {l : Launch} {e : Env} {R : Room} {s : State} {m : MethodId} {args : Array Value} {below : List Frame} {meth : Method} {c : Code} {H : Heap} {locs : List Loc} {cells slots : Nat} {Q : State → Prop} {pc : Nat} {ls : Array Slot} {rest : List Value} {E : Ev} {z : Sh} {h : Hp} {cc : ByteArray}
theorem q_sc {b L : Nat} {xs : Nat → Int32} {i v : Int32} (hv : sc L xs i = some v) (hx : p.tables.exec = Jvm.exec) (hb : c.code = cc) (hX : va_X b L xs s s.heap) (hbl : b < s.heap.size) (hw : Pw s s E z h H locs) (hd : decode cc pc = .ok (.iaload, 1)) (kk : W p l e R s m args below meth c H locs cells slots Q (F0 m (pc + 1) ls (.int v :: rest))) : W p l e R s m args below meth c H locs cells slots Q (F0 m pc ls (.int i :: .ref b :: rest)) := by
  obtain ⟨hin, hv⟩ := if_some hv
  cases hv
  exact va_sld hx hb hX hbl (fun q => Nat.not_le.mpr hbl q) hw.2.1 hin hd kk
theorem W0.go {g : JFrame} (z0 : Sh) (k : W p l e R s m args below meth c H locs (z0.sz - z0.sz) (z0.sl - z0.sl) Q g) : W p l e R s m args below meth c H locs 0 0 Q g := by
  rw [Nat.sub_self, Nat.sub_self] at k
  exact k
/-- a constructor by a plain link -/
theorem q_callIA {y : MethodName} {bytes : ByteArray} {maxL n fr1 lc1 b index fr lc nL : Nat} {own : String} {As st0 : List Value} {h2 : Hp} {s0 : State} {z2 z0 zE : Sh} (Cc : Ca l s0 E y bytes maxL none fr1 lc1 (.ref b :: As) z z2 h h2 none) (hmo : z.sz ≤ z2.sz ∧ z.sl ≤ z2.sl) (hg : z2.sz ≤ zE.sz ∧ z2.sl ≤ zE.sl) (B : Bd p s0 s E m c cc nL own) (hw : Pw s0 s E z h H locs) (hM : Mo s0 s z0 z zE) (hyn : y.name = "<init>") (hy : My y bytes maxL none n) (hv : Cond.instanceMethod y ∈ lw_tbl) (hl : Cond.methodLink own index y ∈ lw_tbl) (hR : fr1 + 1 ≤ fr ∧ 8 + (maxL + 11) + lc1 ≤ lc) (hn : As.length = n) (hls : ls.size = nL) (hst : st0 = As.reverse ++ .ref b :: rest) (hrm : (rest.map fun v => v.category).sum ≤ 8) (hd : decode cc pc = .ok (.invokespecial index, 3))
    (kk : ∀ (H1 : Heap) (locs1 : List Loc), Pw s0 s E z2 h2 H1 locs1 → Mo s0 s z0 z2 zE → W p l e (rmA fr lc z0 zE) s m args below meth c H1 locs1 (z2.sz - z0.sz) (z2.sl - z0.sl) Q (F0 m (pc + 3) ls rest)) : W p l e (rmA fr lc z0 zE) s m args below meth c H locs (z.sz - z0.sz) (z.sl - z0.sl) Q (F0 m pc ls st0) := by
  refine W.sz (fun hH => ?_)
  have hM2 : Mo s0 s z0 z2 zE := hM.go hmo hg
  have m1 := hM.1
  have m2 := hM.2.1
  have hts : ∀ w ∈ [Cond.code y bytes maxL none], w.before args s = true := B.hts0 (fun w hw => by
    rw [List.mem_singleton] at hw
    subst hw
    exact ⟨hy.1, rfl⟩)
  have hG : GoodIn [Cond.code y bytes maxL none] [Cond.code y bytes maxL none] := fun w hw => ⟨hw, by
    rw [List.mem_singleton] at hw
    subst hw
    exact Or.inl rfl⟩
  have e1 : z.sz - z0.sz + (z2.sz - z.sz) = z2.sz - z0.sz := by omega
  have e2 : z.sl - z0.sl + (z2.sl - z.sl) = z2.sl - z0.sl := by omega
  refine cl_goA (va_runI (As := As) (rest := rest) ⟨B.1, B.2.1, B.2.2.1, B.2.2.2.1, hts⟩ Cc (cwI n hts hG rfl rfl rfl (B.w hy.2.1 rfl) (B.w hl rfl) (B.w hv rfl) hyn ⟨hy.2.2.1, hy.2.2.2.1, hy.2.2.2.2⟩ hR) (hw.pre B hM.hz hM.hc0 hH _) rfl hn hls hst (lv_room hrm) hd ⟨by simp only [rmA]; omega, by simp only [rmA]; omega⟩) hw (fun H1 locs1 hw1 => ?_)
  rw [e1, e2]
  exact kk H1 locs1 hw1 hM2
end
theorem tw_2_151 : Cond.methodLink RL 13 yX11_feed ∈ lw_tbl := in_t2 (List.mem_of_getElem? (i := 151) (by decide +kernel))
theorem tw_6_153 : Cond.methodLink RL 17 yX12_feed ∈ lw_tbl := in_t6 (List.mem_of_getElem? (i := 153) (by decide +kernel))
theorem tw_2_163 : Cond.methodLink RL 18 yX11_town ∈ lw_tbl := in_t2 (List.mem_of_getElem? (i := 163) (by decide +kernel))
theorem tw_6_158 : Cond.methodLink RL 22 yX12_town ∈ lw_tbl := in_t6 (List.mem_of_getElem? (i := 158) (by decide +kernel))
theorem tw_3_202 : Cond.methodLink RL 23 yX11_fault ∈ lw_tbl := in_t3 (List.mem_of_getElem? (i := 202) (by decide +kernel))
theorem tw_7_27 : Cond.methodLink RL 26 yX12_fault ∈ lw_tbl := in_t7 (List.mem_of_getElem? (i := 27) (by decide +kernel))
theorem tw_3_206 : Cond.methodLink RL 27 yX11_person ∈ lw_tbl := in_t3 (List.mem_of_getElem? (i := 206) (by decide +kernel))
theorem tw_7_31 : Cond.methodLink RL 31 yX12_person ∈ lw_tbl := in_t7 (List.mem_of_getElem? (i := 31) (by decide +kernel))
theorem tw_3_218 : Cond.methodLink RL 32 yX11_worth ∈ lw_tbl := in_t3 (List.mem_of_getElem? (i := 218) (by decide +kernel))
theorem tw_7_40 : Cond.methodLink RL 35 yX12_worth ∈ lw_tbl := in_t7 (List.mem_of_getElem? (i := 40) (by decide +kernel))
theorem tw_4_13 : Cond.methodLink RL 36 yX11_grown ∈ lw_tbl := in_t4 (List.mem_of_getElem? (i := 13) (by decide +kernel))
theorem tw_7_87 : Cond.methodLink RL 39 yX12_grown ∈ lw_tbl := in_t7 (List.mem_of_getElem? (i := 87) (by decide +kernel))
theorem tw_4_21 : Cond.methodLink RL 40 yX11_live ∈ lw_tbl := in_t4 (List.mem_of_getElem? (i := 21) (by decide +kernel))
theorem tw_7_95 : Cond.methodLink RL 43 yX12_live ∈ lw_tbl := in_t7 (List.mem_of_getElem? (i := 95) (by decide +kernel))
theorem tw_4_46 : Cond.methodLink RL 44 yX11_draw ∈ lw_tbl := in_t4 (List.mem_of_getElem? (i := 46) (by decide +kernel))
theorem tw_7_123 : Cond.methodLink RL 47 yX12_draw ∈ lw_tbl := in_t7 (List.mem_of_getElem? (i := 123) (by decide +kernel))
theorem tw_4_55 : Cond.methodLink RL 48 yX11_pledge ∈ lw_tbl := in_t4 (List.mem_of_getElem? (i := 55) (by decide +kernel))
theorem tw_7_139 : Cond.methodLink RL 51 yX12_pledge ∈ lw_tbl := in_t7 (List.mem_of_getElem? (i := 139) (by decide +kernel))
theorem tw_4_63 : Cond.methodLink RL 52 yX11_redeem ∈ lw_tbl := in_t4 (List.mem_of_getElem? (i := 63) (by decide +kernel))
theorem tw_7_152 : Cond.methodLink RL 55 yX12_redeem ∈ lw_tbl := in_t7 (List.mem_of_getElem? (i := 152) (by decide +kernel))
theorem tw_4_71 : Cond.methodLink RL 56 yX11_talent ∈ lw_tbl := in_t4 (List.mem_of_getElem? (i := 71) (by decide +kernel))
theorem tw_7_160 : Cond.methodLink RL 59 yX12_talent ∈ lw_tbl := in_t7 (List.mem_of_getElem? (i := 160) (by decide +kernel))
theorem tw_4_76 : Cond.methodLink RL 60 yX11_undo ∈ lw_tbl := in_t4 (List.mem_of_getElem? (i := 76) (by decide +kernel))
theorem tw_7_166 : Cond.methodLink RL 63 yX12_undo ∈ lw_tbl := in_t7 (List.mem_of_getElem? (i := 166) (by decide +kernel))
theorem tw_4_87 : Cond.methodLink RL 64 yX11_judge ∈ lw_tbl := in_t4 (List.mem_of_getElem? (i := 87) (by decide +kernel))
theorem tw_7_171 : Cond.methodLink RL 67 yX12_judge ∈ lw_tbl := in_t7 (List.mem_of_getElem? (i := 171) (by decide +kernel))
theorem tw_4_128 : Cond.methodLink RL 68 yX11_perform ∈ lw_tbl := in_t4 (List.mem_of_getElem? (i := 128) (by decide +kernel))
theorem tw_7_211 : Cond.methodLink RL 71 yX12_perform ∈ lw_tbl := in_t7 (List.mem_of_getElem? (i := 211) (by decide +kernel))
theorem tw_4_132 : Cond.methodLink RL 72 yX11_season ∈ lw_tbl := in_t4 (List.mem_of_getElem? (i := 132) (by decide +kernel))
theorem tw_7_215 : Cond.methodLink RL 75 yX12_season ∈ lw_tbl := in_t7 (List.mem_of_getElem? (i := 215) (by decide +kernel))
theorem tw_4_149 : Cond.methodLink RL 76 yX11_best ∈ lw_tbl := in_t4 (List.mem_of_getElem? (i := 149) (by decide +kernel))
theorem tw_7_229 : Cond.methodLink RL 79 yX12_best ∈ lw_tbl := in_t7 (List.mem_of_getElem? (i := 229) (by decide +kernel))
theorem tw_4_228 : Cond.methodLink RL 80 yX11_course ∈ lw_tbl := in_t4 (List.mem_of_getElem? (i := 228) (by decide +kernel))
theorem tw_8_5 : Cond.methodLink RL 83 yX12_course ∈ lw_tbl := in_t8 (List.mem_of_getElem? (i := 5) (by decide +kernel))
theorem tw_5_3 : Cond.methodLink RL 84 yX11_drawsAt ∈ lw_tbl := in_t5 (List.mem_of_getElem? (i := 3) (by decide +kernel))
theorem tw_8_21 : Cond.methodLink RL 87 yX12_drawsAt ∈ lw_tbl := in_t8 (List.mem_of_getElem? (i := 21) (by decide +kernel))
theorem tw_5_12 : Cond.methodLink RL 88 yX11_courses ∈ lw_tbl := in_t5 (List.mem_of_getElem? (i := 12) (by decide +kernel))
theorem tw_8_25 : Cond.methodLink RL 92 yX12_courses ∈ lw_tbl := in_t8 (List.mem_of_getElem? (i := 25) (by decide +kernel))
theorem tw_5_26 : Cond.methodLink RL 93 yX11_soonest ∈ lw_tbl := in_t5 (List.mem_of_getElem? (i := 26) (by decide +kernel))
theorem tw_8_34 : Cond.methodLink RL 96 yX12_soonest ∈ lw_tbl := in_t8 (List.mem_of_getElem? (i := 34) (by decide +kernel))
theorem tw_5_42 : Cond.methodLink RL 97 yX11_mean ∈ lw_tbl := in_t5 (List.mem_of_getElem? (i := 42) (by decide +kernel))
theorem tw_8_47 : Cond.methodLink RL 101 yX12_mean ∈ lw_tbl := in_t8 (List.mem_of_getElem? (i := 47) (by decide +kernel))
theorem tw_5_87 : Cond.methodLink RL 102 yX11_choice ∈ lw_tbl := in_t5 (List.mem_of_getElem? (i := 87) (by decide +kernel))
theorem tw_8_70 : Cond.methodLink RL 105 yX12_choice ∈ lw_tbl := in_t8 (List.mem_of_getElem? (i := 70) (by decide +kernel))
theorem tw_5_95 : Cond.methodLink RL 106 yX11_drawing ∈ lw_tbl := in_t5 (List.mem_of_getElem? (i := 95) (by decide +kernel))
theorem tw_8_74 : Cond.methodLink RL 109 yX12_drawing ∈ lw_tbl := in_t8 (List.mem_of_getElem? (i := 74) (by decide +kernel))
theorem tw_5_103 : Cond.methodLink RL 110 yX11_hope ∈ lw_tbl := in_t5 (List.mem_of_getElem? (i := 103) (by decide +kernel))
theorem tw_8_78 : Cond.methodLink RL 114 yX12_hope ∈ lw_tbl := in_t8 (List.mem_of_getElem? (i := 78) (by decide +kernel))
theorem tw_5_137 : Cond.methodLink RL 115 yX11_hoping ∈ lw_tbl := in_t5 (List.mem_of_getElem? (i := 137) (by decide +kernel))
theorem tw_8_105 : Cond.methodLink RL 118 yX12_hoping ∈ lw_tbl := in_t8 (List.mem_of_getElem? (i := 105) (by decide +kernel))
theorem tw_5_146 : Cond.methodLink RL 119 yX11_talents ∈ lw_tbl := in_t5 (List.mem_of_getElem? (i := 146) (by decide +kernel))
theorem tw_8_109 : Cond.methodLink RL 123 yX12_talents ∈ lw_tbl := in_t8 (List.mem_of_getElem? (i := 109) (by decide +kernel))
theorem tw_5_159 : Cond.methodLink RL 124 yX11_attempt ∈ lw_tbl := in_t5 (List.mem_of_getElem? (i := 159) (by decide +kernel))
theorem tw_8_123 : Cond.methodLink RL 127 yX12_attempt ∈ lw_tbl := in_t8 (List.mem_of_getElem? (i := 123) (by decide +kernel))
theorem tw_5_169 : Cond.methodLink RL 128 yX11_run ∈ lw_tbl := in_t5 (List.mem_of_getElem? (i := 169) (by decide +kernel))
theorem tw_8_134 : Cond.methodLink RL 131 yX12_run ∈ lw_tbl := in_t8 (List.mem_of_getElem? (i := 134) (by decide +kernel))
theorem tw_5_195 : Cond.methodLink RL 132 yX11_rounds ∈ lw_tbl := in_t5 (List.mem_of_getElem? (i := 195) (by decide +kernel))
theorem tw_8_153 : Cond.methodLink RL 135 yX12_rounds ∈ lw_tbl := in_t8 (List.mem_of_getElem? (i := 153) (by decide +kernel))
theorem tw_5_203 : Cond.methodLink RL 136 yX11_spark ∈ lw_tbl := in_t5 (List.mem_of_getElem? (i := 203) (by decide +kernel))
theorem tw_8_157 : Cond.methodLink RL 139 yX12_spark ∈ lw_tbl := in_t8 (List.mem_of_getElem? (i := 157) (by decide +kernel))
theorem tw_5_209 : Cond.methodLink RL 140 yX11_calm ∈ lw_tbl := in_t5 (List.mem_of_getElem? (i := 209) (by decide +kernel))
theorem tw_8_162 : Cond.methodLink RL 143 yX12_calm ∈ lw_tbl := in_t8 (List.mem_of_getElem? (i := 162) (by decide +kernel))
theorem tw_5_213 : Cond.methodLink RL 144 yX11_rests ∈ lw_tbl := in_t5 (List.mem_of_getElem? (i := 213) (by decide +kernel))
theorem tw_8_166 : Cond.methodLink RL 148 yX12_rests ∈ lw_tbl := in_t8 (List.mem_of_getElem? (i := 166) (by decide +kernel))
theorem tw_5_221 : Cond.methodLink RL 149 yX11_rest ∈ lw_tbl := in_t5 (List.mem_of_getElem? (i := 221) (by decide +kernel))
theorem tw_8_174 : Cond.methodLink RL 152 yX12_rest ∈ lw_tbl := in_t8 (List.mem_of_getElem? (i := 174) (by decide +kernel))
theorem tw_5_225 : Cond.methodLink RL 153 yX11_numbers ∈ lw_tbl := in_t5 (List.mem_of_getElem? (i := 225) (by decide +kernel))
theorem tw_8_178 : Cond.methodLink RL 156 yX12_numbers ∈ lw_tbl := in_t8 (List.mem_of_getElem? (i := 178) (by decide +kernel))
theorem tw_8_210 : Cond.constantLong RL 157 (4294967295) ∈ lw_tbl := in_t8 (List.mem_of_getElem? (i := 210) (by decide +kernel))
theorem tw_5_236 : Cond.methodLink RL 159 yX11_write ∈ lw_tbl := in_t5 (List.mem_of_getElem? (i := 236) (by decide +kernel))
theorem tw_8_182 : Cond.methodLink RL 163 yX12_write ∈ lw_tbl := in_t8 (List.mem_of_getElem? (i := 182) (by decide +kernel))
theorem tw_6_8 : Cond.methodLink RL 164 yX11_lists ∈ lw_tbl := in_t6 (List.mem_of_getElem? (i := 8) (by decide +kernel))
theorem tw_8_190 : Cond.methodLink RL 167 yX12_lists ∈ lw_tbl := in_t8 (List.mem_of_getElem? (i := 190) (by decide +kernel))
theorem tw_6_17 : Cond.methodLink RL 168 yX11_image ∈ lw_tbl := in_t6 (List.mem_of_getElem? (i := 17) (by decide +kernel))
theorem tw_8_194 : Cond.methodLink RL 171 yX12_image ∈ lw_tbl := in_t8 (List.mem_of_getElem? (i := 194) (by decide +kernel))
theorem tw_6_21 : Cond.methodLink RL 172 yX11_restore ∈ lw_tbl := in_t6 (List.mem_of_getElem? (i := 21) (by decide +kernel))
theorem tw_8_198 : Cond.methodLink RL 175 yX12_restore ∈ lw_tbl := in_t8 (List.mem_of_getElem? (i := 198) (by decide +kernel))
theorem tw_6_25 : Cond.methodLink RL 176 yX11_count ∈ lw_tbl := in_t6 (List.mem_of_getElem? (i := 25) (by decide +kernel))
theorem tw_8_202 : Cond.methodLink RL 179 yX12_count ∈ lw_tbl := in_t8 (List.mem_of_getElem? (i := 202) (by decide +kernel))
theorem tw_1_23 : Cond.classLink RL 7 RX11 ∈ lw_tbl := in_t1 (List.mem_of_getElem? (i := 23) (by decide +kernel))
theorem tw_1_24 : Cond.instantiable RX11 16 ∈ lw_tbl := in_t1 (List.mem_of_getElem? (i := 24) (by decide +kernel))
theorem tw_1_25 : Cond.methodLink RL 9 yX11_init ∈ lw_tbl := in_t1 (List.mem_of_getElem? (i := 25) (by decide +kernel))
theorem tw_6_33 : Cond.classLink RL 10 RX12 ∈ lw_tbl := in_t6 (List.mem_of_getElem? (i := 33) (by decide +kernel))
theorem tw_6_34 : Cond.instantiable RX12 36 ∈ lw_tbl := in_t6 (List.mem_of_getElem? (i := 34) (by decide +kernel))
theorem tw_6_35 : Cond.methodLink RL 12 yX12_init ∈ lw_tbl := in_t6 (List.mem_of_getElem? (i := 35) (by decide +kernel))
