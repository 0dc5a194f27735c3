/-! ===== the start: what the Statement gives, as a picture ===== -/
abbrev FlN : List Cond := flatC (Jvm.Cond.and given_1 narrow_1)
/-- a text's bytes -/
def sby (t : String) : List Int32 := t.toList.map (fun c => Int32.ofNat c.toNat)
abbrev tmS (q : String × Nat × String × Nat) : Term := Term.string q.1 q.2.1
abbrev tmV (q : String × Nat × String × Nat) : Term := Term.field (tmS q) "java/lang/String" "value" "[B"
def LAf (q : String × Nat × String × Nat) : List Cond := [Cond.exactly (tmS q) "java/lang/String", Cond.eq (.field (tmS q) "java/lang/String" "coder" "B") (.int 0), Cond.arrayOf (tmV q) .byte, Cond.eq (.length (tmV q)) (.int (Int32.ofNat (sby q.2.2.1).length))] ++ (List.range (sby q.2.2.1).length).map (fun j => Cond.eq (.elem (tmV q) (.int (Int32.ofNat j))) (.int ((sby q.2.2.1).getD j 0)))
theorem fl_0 : (FlN.drop 85).take 16 = LAf ("SecondLife$Reader", 242, ";:+-*()[]=<>", 10) := by decide +kernel
theorem fl_1 : (FlN.drop 101).take 8 = LAf ("SecondLife$Reader", 65, "town", 11) := by decide +kernel
theorem fl_2 : (FlN.drop 109).take 9 = LAf ("SecondLife$Reader", 71, "years", 12) := by decide +kernel
theorem fl_3 : (FlN.drop 118).take 10 = LAf ("SecondLife$Reader", 79, "trades", 13) := by decide +kernel
theorem fl_4 : (FlN.drop 128).take 5 = LAf ("SecondLife$Reader", 117, ";", 14) := by decide +kernel
theorem fl_5 : (FlN.drop 133).take 10 = LAf ("SecondLife$Reader", 86, "person", 15) := by decide +kernel
theorem fl_6 : (FlN.drop 143).take 10 = LAf ("SecondLife$Reader", 122, "talent", 16) := by decide +kernel
theorem fl_7 : (FlN.drop 153).take 8 = LAf ("SecondLife$Reader", 124, "fear", 17) := by decide +kernel
theorem fl_8 : (FlN.drop 161).take 8 = LAf ("SecondLife$Reader", 94, "cash", 18) := by decide +kernel
theorem fl_9 : (FlN.drop 169).take 8 = LAf ("SecondLife$Reader", 98, "dies", 19) := by decide +kernel
theorem fl_10 : (FlN.drop 177).take 9 = LAf ("SecondLife$Reader", 102, "worth", 20) := by decide +kernel
theorem fl_11 : (FlN.drop 186).take 9 = LAf ("SecondLife$Reader", 104, "grows", 21) := by decide +kernel
theorem fl_12 : (FlN.drop 195).take 5 = LAf ("SecondLife$Reader", 130, ":", 22) := by decide +kernel
theorem fl_13 : (FlN.drop 200).take 5 = LAf ("SecondLife$Reader", 165, "(", 23) := by decide +kernel
theorem fl_14 : (FlN.drop 205).take 5 = LAf ("SecondLife$Reader", 170, ")", 24) := by decide +kernel
theorem fl_15 : (FlN.drop 210).take 6 = LAf ("SecondLife$Reader", 172, "if", 25) := by decide +kernel
theorem fl_16 : (FlN.drop 216).take 7 = LAf ("SecondLife$Reader", 209, "not", 26) := by decide +kernel
theorem fl_17 : (FlN.drop 223).take 5 = LAf ("SecondLife$Reader", 211, "[", 27) := by decide +kernel
theorem fl_18 : (FlN.drop 228).take 5 = LAf ("SecondLife$Reader", 213, "]", 28) := by decide +kernel
theorem fl_19 : (FlN.drop 233).take 5 = LAf ("SecondLife$Reader", 215, "=", 29) := by decide +kernel
theorem fl_20 : (FlN.drop 238).take 5 = LAf ("SecondLife$Reader", 217, "<", 30) := by decide +kernel
theorem fl_21 : (FlN.drop 243).take 5 = LAf ("SecondLife$Reader", 219, ">", 31) := by decide +kernel
theorem fl_22 : (FlN.drop 248).take 7 = LAf ("SecondLife$Reader", 207, "and", 32) := by decide +kernel
theorem fl_23 : (FlN.drop 255).take 6 = LAf ("SecondLife$Reader", 202, "or", 33) := by decide +kernel
theorem fl_24 : (FlN.drop 261).take 8 = LAf ("SecondLife$Reader", 177, "then", 34) := by decide +kernel
theorem fl_25 : (FlN.drop 269).take 8 = LAf ("SecondLife$Reader", 179, "else", 35) := by decide +kernel
theorem fl_26 : (FlN.drop 277).take 7 = LAf ("SecondLife$Reader", 181, "end", 36) := by decide +kernel
theorem fl_27 : (FlN.drop 284).take 8 = LAf ("SecondLife$Reader", 187, "year", 37) := by decide +kernel
theorem fl_28 : (FlN.drop 292).take 9 = LAf ("SecondLife$Reader", 189, "trade", 38) := by decide +kernel
theorem fl_29 : (FlN.drop 301).take 8 = LAf ("SecondLife$Reader", 191, "last", 39) := by decide +kernel
theorem fl_30 : (FlN.drop 309).take 10 = LAf ("SecondLife$Reader", 193, "streak", 40) := by decide +kernel
theorem fl_31 : (FlN.drop 319).take 8 = LAf ("SecondLife$Reader", 195, "life", 41) := by decide +kernel
theorem fl_32 : (FlN.drop 327).take 7 = LAf ("SecondLife$Reader", 197, "old", 42) := by decide +kernel
theorem fl_33 : (FlN.drop 334).take 5 = LAf ("SecondLife$Reader", 163, "*", 43) := by decide +kernel
theorem fl_34 : (FlN.drop 339).take 5 = LAf ("SecondLife$Reader", 150, "+", 44) := by decide +kernel
theorem fl_35 : (FlN.drop 344).take 5 = LAf ("SecondLife$Reader", 152, "-", 45) := by decide +kernel
theorem fl_36 : (FlN.drop 349).take 124 = LAf ("SecondLifeModel", 88, " town years trades person talent fear cash dies worth grows if then else end year trade last streak life old and or not ", 46) := by decide +kernel
theorem fl_37 : (FlN.drop 473).take 16 = LAf ("SecondLifeModel", 126, ";:+-*()[]=<>", 47) := by decide +kernel
theorem fl_all : ∀ q ∈ strTab, ∃ p k, (FlN.drop p).take k = LAf q := List.forall_mem_cons.mpr ⟨⟨85, 16, fl_0⟩, List.forall_mem_cons.mpr ⟨⟨101, 8, fl_1⟩, List.forall_mem_cons.mpr ⟨⟨109, 9, fl_2⟩, List.forall_mem_cons.mpr ⟨⟨118, 10, fl_3⟩, List.forall_mem_cons.mpr ⟨⟨128, 5, fl_4⟩, List.forall_mem_cons.mpr ⟨⟨133, 10, fl_5⟩, List.forall_mem_cons.mpr ⟨⟨143, 10, fl_6⟩, List.forall_mem_cons.mpr ⟨⟨153, 8, fl_7⟩, List.forall_mem_cons.mpr ⟨⟨161, 8, fl_8⟩, List.forall_mem_cons.mpr ⟨⟨169, 8, fl_9⟩, List.forall_mem_cons.mpr ⟨⟨177, 9, fl_10⟩, List.forall_mem_cons.mpr ⟨⟨186, 9, fl_11⟩, List.forall_mem_cons.mpr ⟨⟨195, 5, fl_12⟩, List.forall_mem_cons.mpr ⟨⟨200, 5, fl_13⟩, List.forall_mem_cons.mpr ⟨⟨205, 5, fl_14⟩, List.forall_mem_cons.mpr ⟨⟨210, 6, fl_15⟩, List.forall_mem_cons.mpr ⟨⟨216, 7, fl_16⟩, List.forall_mem_cons.mpr ⟨⟨223, 5, fl_17⟩, List.forall_mem_cons.mpr ⟨⟨228, 5, fl_18⟩, List.forall_mem_cons.mpr ⟨⟨233, 5, fl_19⟩, List.forall_mem_cons.mpr ⟨⟨238, 5, fl_20⟩, List.forall_mem_cons.mpr ⟨⟨243, 5, fl_21⟩, List.forall_mem_cons.mpr ⟨⟨248, 7, fl_22⟩, List.forall_mem_cons.mpr ⟨⟨255, 6, fl_23⟩, List.forall_mem_cons.mpr ⟨⟨261, 8, fl_24⟩, List.forall_mem_cons.mpr ⟨⟨269, 8, fl_25⟩, List.forall_mem_cons.mpr ⟨⟨277, 7, fl_26⟩, List.forall_mem_cons.mpr ⟨⟨284, 8, fl_27⟩, List.forall_mem_cons.mpr ⟨⟨292, 9, fl_28⟩, List.forall_mem_cons.mpr ⟨⟨301, 8, fl_29⟩, List.forall_mem_cons.mpr ⟨⟨309, 10, fl_30⟩, List.forall_mem_cons.mpr ⟨⟨319, 8, fl_31⟩, List.forall_mem_cons.mpr ⟨⟨327, 7, fl_32⟩, List.forall_mem_cons.mpr ⟨⟨334, 5, fl_33⟩, List.forall_mem_cons.mpr ⟨⟨339, 5, fl_34⟩, List.forall_mem_cons.mpr ⟨⟨344, 5, fl_35⟩, List.forall_mem_cons.mpr ⟨⟨349, 124, fl_36⟩, List.forall_mem_cons.mpr ⟨⟨473, 16, fl_37⟩, fun _ h => absurd h List.not_mem_nil⟩⟩⟩⟩⟩⟩⟩⟩⟩⟩⟩⟩⟩⟩⟩⟩⟩⟩⟩⟩⟩⟩⟩⟩⟩⟩⟩⟩⟩⟩⟩⟩⟩⟩⟩⟩⟩⟩
theorem fl_in {q : String × Nat × String × Nat} (hq : q ∈ strTab) {w : Cond} (hw : w ∈ LAf q) : w ∈ FlN := by
  obtain ⟨p, k, e⟩ := fl_all q hq
  rw [← e] at hw
  exact List.mem_of_mem_drop (List.mem_of_mem_take hw)
theorem st_a (q : String × Nat × String × Nat) (hq : q ∈ strTab) : Cond.exactly (tmS q) "java/lang/String" ∈ FlN ∧ Cond.eq (.field (tmS q) "java/lang/String" "coder" "B") (.int 0) ∈ FlN ∧ Cond.arrayOf (tmV q) .byte ∈ FlN ∧ Cond.eq (.length (tmV q)) (.int (Int32.ofNat (sby q.2.2.1).length)) ∈ FlN :=
  ⟨fl_in hq (List.mem_append_left _ (List.mem_of_getElem? (i := 0) rfl)), fl_in hq (List.mem_append_left _ (List.mem_of_getElem? (i := 1) rfl)), fl_in hq (List.mem_append_left _ (List.mem_of_getElem? (i := 2) rfl)), fl_in hq (List.mem_append_left _ (List.mem_of_getElem? (i := 3) rfl))⟩
theorem st_b (q : String × Nat × String × Nat) (hq : q ∈ strTab) (j : Nat) (hj : j < (sby q.2.2.1).length) : Cond.eq (.elem (tmV q) (.int (Int32.ofNat j))) (.int ((sby q.2.2.1).getD j 0)) ∈ FlN :=
  fl_in hq (List.mem_append_right _ (List.mem_map.mpr ⟨j, List.mem_range.mpr hj, rfl⟩))
theorem st_c : ∀ q ∈ strTab, Cond.stringRef q.1 q.2.1 q.2.2.1 ∈ lw_tbl ∧ (sby q.2.2.1).length < 2147483648 := by decide +kernel
theorem st_i : ∀ i, i < 38 → ∃ q, strTab[i]? = some q ∧ q.2.2.2 = 10 + i := by decide +kernel
theorem st_i2 : ∀ q ∈ strTab, 10 ≤ q.2.2.2 ∧ q.2.2.2 < 48 ∧ strTab[q.2.2.2 - 10]? = some q := by decide +kernel
abbrev tmO : Term := Term.static "SecondLife$Town" "ALWAYS_ONE" "[I"
abbrev tmZ : Term := Term.static "SecondLife$Town" "ALWAYS_ZERO" "[I"
abbrev tmT : Term := Term.static "SecondLife$Chances" "TENS" "[J"
/-- 10 to the j, as TENS has them -/
def tenJ (j : Nat) : Int64 := ([1, 10, 100, 1000, 10000, 100000, 1000000, 10000000, 100000000, 1000000000, 10000000000, 100000000000, 1000000000000] : List Int64).getD j 0
theorem st_s : (Cond.arrayOf tmO .int ∈ FlN ∧ Cond.eq (.length tmO) (.int (Int32.ofNat 1)) ∈ FlN ∧ Cond.eq (.elem tmO (.int (Int32.ofNat 0))) (.int 1) ∈ FlN) ∧ (Cond.arrayOf tmZ .int ∈ FlN ∧ Cond.eq (.length tmZ) (.int (Int32.ofNat 1)) ∈ FlN ∧ Cond.eq (.elem tmZ (.int (Int32.ofNat 0))) (.int 0) ∈ FlN) ∧ (Cond.arrayOf tmT .long ∈ FlN ∧ Cond.eq (.length tmT) (.int (Int32.ofNat 13)) ∈ FlN) ∧ Cond.eq (.static "java/lang/String" "COMPACT_STRINGS" "Z") (.int 1) ∈ FlN := by decide +kernel
theorem st_t : ∀ j, j < 13 → Cond.eq (.elem tmT (.int (Int32.ofNat j))) (.long (tenJ j)) ∈ FlN := by decide +kernel
theorem st_w : (Cond.laysStatic "SecondLife$Town" "ALWAYS_ONE" "[I" ∈ lw_tbl ∧ Cond.laysStatic "SecondLife$Town" "ALWAYS_ZERO" "[I" ∈ lw_tbl ∧ Cond.laysStatic "SecondLife$Chances" "TENS" "[J" ∈ lw_tbl ∧ Cond.laysStatic "java/lang/String" "COMPACT_STRINGS" "Z" ∈ lw_tbl) ∧ Cond.initialized "SecondLife$Town" ∈ lw_tbl ∧ Cond.initialized "SecondLife$Chances" ∈ lw_tbl ∧ Cond.initialized "java/lang/String" ∈ lw_tbl := by decide +kernel
abbrev tmF : Term := Term.static "jdk/internal/util/Preconditions" "SIOOBE_FORMATTER" "Ljava/util/function/BiFunction;"
theorem st_f : Cond.isRef tmF ∈ FlN ∧ Cond.laysStatic "jdk/internal/util/Preconditions" "SIOOBE_FORMATTER" "Ljava/util/function/BiFunction;" ∈ lw_tbl ∧ Cond.initialized "jdk/internal/util/Preconditions" ∈ lw_tbl := by decide +kernel
theorem st_k : ∀ q ∈ vwCl, Cond.instantiable q.1 q.2.2 ∈ lw_tbl := by decide +kernel
theorem st_r : (Cond.arrayClass .byte ∈ lw_tbl ∧ Cond.arrayClass .int ∈ lw_tbl ∧ Cond.arrayClass .long ∈ lw_tbl ∧ Cond.arrayClass .boolean ∈ lw_tbl) ∧ Cond.arrayOver (.object RX3) ∈ lw_tbl ∧ Cond.arrayOver (.object RX5) ∈ lw_tbl ∧ Cond.arrayOver (.object RX8) ∈ lw_tbl ∧ Cond.arrayOver (.object RX9) ∈ lw_tbl := by decide +kernel
theorem arr_p {s : State} {args : Array Value} {ty : FieldType} (h : (Cond.arrayClass ty).before args s = true) (hp : ∀ C, ty ≠ .object C) : ∃ cA : ClassId, ArrOfT s cA ty ∧ va_RA s cA ty := by
  obtain ⟨cA, kA, comp, h1, h2, h3⟩ := Cond.arrayClass_spec h
  refine ⟨cA, fun n z => ⟨fun k h => (by cases h), kA, h2, comp, h3⟩, ?_⟩
  cases ty with
  | object C => exact absurd rfl (hp C)
  | _ => exact h1
theorem arr_q {s : State} {args : Array Value} {C : String} (h : (Cond.arrayOver (.object C)).before args s = true) : ∃ cA : ClassId, ArrOfT s cA (.object C) ∧ va_RA s cA (.object C) := by
  obtain ⟨comp, cA, kA, h1, h2, h3, h4, h5⟩ := Cond.arrayOver_spec h
  exact ⟨cA, fun n z => ⟨fun k h => (by cases h), kA, h3, comp, h4⟩, kA, comp, h3, h4, h1, h5⟩
/-- one String constant -/
theorem str_p {s : State} {args : Array Value} (hs : ∀ w ∈ FlN, w.before args s = true) (ht : ∀ w ∈ lw_tbl, w.before args s = true) {q : String × Nat × String × Nat} (hq : q ∈ strTab) : ∃ a v : Nat, vk_R q.1 q.2.1 q.2.2.1 a s ∧ va_O "java/lang/String" a (Ax s) s s.heap ∧ va_OF "java/lang/String" "coder" "B" (.int 0) a (Ax s) s s.heap ∧ va_OF "java/lang/String" "value" "[B" (.ref v) a (Ax s) s s.heap ∧ va_T .byte v (sby q.2.2.1).length (fun j => .int ((sby q.2.2.1).getD j 0)) (Ax s) s s.heap := by
  obtain ⟨a1, a2, a3, a4⟩ := st_a q hq
  have hA : ∀ a : Nat, a < s.heap.size → ¬ Ax s a := fun a h => Nat.not_le.mpr h
  obtain ⟨adK, adV, hS, hE⟩ := vk_Sof (args := args) (s := s) (N := 1) (tm := fun _ => tmS q) (len := [(sby q.2.2.1).length]) (byt := [sby q.2.2.1]) (A := Ax s)
    (fun i hi => by
      have : i = 0 := by omega
      subst this
      exact (st_c q hq).2)
    (fun i hi => hs _ a1) (fun i hi => hs _ a2) (fun i hi => hs _ a3)
    (fun i hi => by
      have : i = 0 := by omega
      subst this
      exact hs _ a4)
    (fun i hi j hj => by
      have : i = 0 := by omega
      subst this
      exact hs _ (st_b q hq j hj))
    (fun i j hi hj hij => by omega) hA
  have h0 := hS.1 0 (by decide)
  exact ⟨adK 0, adV 0, vk_R.of (ht _ (st_c q hq).1) (hE 0 (by decide)), h0.1, h0.2.1, h0.2.2.1, h0.2.2.2⟩
/-- what the heap holds, as numbers -/
def inI (s : State) (a j : Nat) : Int32 := match s.heap[a]? with
  | some c => (match c.slots[j]? with
    | some (.int v) => v
    | _ => 0)
  | none => 0
def inJ (s : State) (a j : Nat) : Int64 := match s.heap[a]? with
  | some c => (match c.slots[j]? with
    | some (.long v) => v
    | _ => 0)
  | none => 0
def inN (s : State) (a : Nat) : Nat := match s.heap[a]? with
  | some c => c.slots.size.toInt32.toNatClampNeg
  | none => 0
theorem inN_of {s : State} {ty : FieldType} {t N : Nat} {f : Nat → Value} {A : Nat → Prop} (h : va_T ty t N f A s s.heap) (hN : N < 2147483648) : inN s t = N := by
  obtain ⟨cell, h1, h2, h3, h4, h5, h6, h7⟩ := h
  simp only [inN, h1, h5]
  exact nI_clamp (by omega)
theorem inI_of {s : State} {ty : FieldType} {t N : Nat} {f : Nat → Int32} {A : Nat → Prop} (h : va_T ty t N (fun j => .int (f j)) A s s.heap) {j : Nat} (hj : j < N) : inI s t j = f j := by
  obtain ⟨cell, h1, h2, h3, h4, h5, h6, h7⟩ := h
  simp only [inI, h1, h6 j hj]
theorem inJ_of {s : State} {ty : FieldType} {t N : Nat} {f : Nat → Int64} {A : Nat → Prop} (h : va_T ty t N (fun j => .long (f j)) A s s.heap) {j : Nat} (hj : j < N) : inJ s t j = f j := by
  obtain ⟨cell, h1, h2, h3, h4, h5, h6, h7⟩ := h
  simp only [inJ, h1, h6 j hj]
theorem va_T.eqf {s : State} {ty : FieldType} {t N : Nat} {f g : Nat → Value} {A : Nat → Prop} (h : va_T ty t N f A s s.heap) (hg : ∀ j, j < N → g j = f j) : va_T ty t N g A s s.heap := by
  obtain ⟨cell, h1, h2, h3, h4, h5, h6, h7⟩ := h
  exact ⟨cell, h1, h2, h3, h4, h5, fun j hj => by rw [hg j hj]; exact h6 j hj, h7⟩
theorem va_T.ty1 {s : State} {ty ty2 : FieldType} {t N N2 : Nat} {f g : Nat → Value} {A : Nat → Prop} (h : va_T ty t N f A s s.heap) (h' : va_T ty2 t N2 g A s s.heap) : ty = ty2 := by
  obtain ⟨cell, h1, h2, -⟩ := h
  obtain ⟨cell', k1, k2, -⟩ := h'
  cases h1.symm.trans k1
  obtain ⟨-, x, hx, c1, e1⟩ := h2
  obtain ⟨-, y, hy, c2, e2⟩ := k2
  cases hx.symm.trans hy
  rw [e1] at e2
  cases e2
  rfl
theorem va_T.lt {s : State} {ty : FieldType} {t N : Nat} {f : Nat → Value} {A : Nat → Prop} (h : va_T ty t N f A s s.heap) : t < s.heap.size := by
  obtain ⟨cell, h1, -⟩ := h
  exact (Array.getElem?_eq_some_iff.mp h1).1
theorem va_OF.one {s : State} {o n d : String} {v w : Nat} {a : Nat} {A : Nat → Prop} (h : va_OF o n d (.ref v) a A s s.heap) (h' : va_OF o n d (.ref w) a A s s.heap) : v = w := by
  obtain ⟨cf, k, i, f, cell, h1, h2, h3, h4, h5, h6⟩ := h
  obtain ⟨cf', k', i', f', cell', g1, g2, g3, g4, g5, g6⟩ := h'
  cases h1.symm.trans g1
  cases h3.symm.trans g3
  cases h5.symm.trans g5
  rfl
/-- the picture at the start: nothing in the pool, the statics, the String constants -/
def Ini (z : Sh) (h : Hp) : Prop :=
  (∀ a, 21 ≤ z.K a) ∧ (∀ a, z.sz ≤ a → z.K a = 99) ∧ z.sl = 0 ∧
  (z.K (z.st 0) = 34 ∧ z.N (z.st 0) = 1 ∧ h.I (z.st 0) 0 = 1) ∧ (z.K (z.st 1) = 34 ∧ z.N (z.st 1) = 1 ∧ h.I (z.st 1) 0 = 0) ∧
  (z.K (z.st 2) = 35 ∧ z.N (z.st 2) = 13 ∧ ∀ j, j < 13 → h.J (z.st 2) j = tenJ j) ∧
  ∀ q ∈ strTab, z.st q.2.2.2 < z.sz ∧ ∃ v, h.R (z.st q.2.2.2) 0 = some v ∧ z.K v = 33 ∧ z.N v = (sby q.2.2.1).length ∧ ∀ j, j < (sby q.2.2.1).length → h.I v j = (sby q.2.2.1).getD j 0
theorem start_ok {p : Program} {s : State} {m : MethodId} {meth : Method} {c : Code} {b L : Nat} {xs : Nat → Int32} (C0 : lw_At p s m meth c b L xs) : ∃ (E : Ev) (z : Sh) (h : Hp), Gl s E ∧ Pw s s E z h s.heap [] ∧ s.heap.size = z.sz ∧ Ini z h := by
  obtain ⟨hx, hb, hr, hml, hown, hts, hX, hbl, hlocks, hgv⟩ := id C0
  have hs : ∀ w ∈ FlN, w.before #[Value.ref b] s = true := flat_of_before _ hgv
  have hA : ∀ a : Nat, a < s.heap.size → ¬ Ax s a := fun a h => Nat.not_le.mpr h
  -- classes
  have hkn : ∀ ci : Nat, ∃ q : ClassId × (Nat → Nat), ∀ r : vw_C, vwCl[ci]? = some r → u_Kn s r.1 r.2.1 r.2.2 q.1 q.2 := by
    intro ci
    cases hc : vwCl[ci]? with
    | none => exact ⟨(0, fun _ => 0), fun r hr => by cases hr⟩
    | some r =>
      obtain ⟨cC, iS, hk⟩ := u_known (C := r.1) (T := r.2.1) (N := r.2.2) (n := r.2.2) hts (fun w hw => (u_in0 r (List.mem_of_getElem? hc) w hw).1) (hts _ (st_k r (List.mem_of_getElem? hc)))
      exact ⟨(cC, iS), fun r' hr => by cases hr; exact hk⟩
  obtain ⟨dd, hdd⟩ := Classical.axiomOfChoice hkn
  obtain ⟨y13, b13⟩ := arr_p (hts _ st_r.1.1) (fun C h => by cases h)
  obtain ⟨y14, b14⟩ := arr_p (hts _ st_r.1.2.1) (fun C h => by cases h)
  obtain ⟨y15, b15⟩ := arr_p (hts _ st_r.1.2.2.1) (fun C h => by cases h)
  obtain ⟨y16, b16⟩ := arr_p (hts _ st_r.1.2.2.2) (fun C h => by cases h)
  obtain ⟨y17, b17⟩ := arr_q (hts _ st_r.2.1)
  obtain ⟨y18, b18⟩ := arr_q (hts _ st_r.2.2.1)
  obtain ⟨y19, b19⟩ := arr_q (hts _ st_r.2.2.2.1)
  obtain ⟨y20, b20⟩ := arr_q (hts _ st_r.2.2.2.2)
  -- statics
  obtain ⟨t0, e0, T0⟩ := va_Tof (f := fun _ => .int 1) (A := Ax s) (N := 1) (by decide) (hs _ st_s.1.1) (va_eqt (hs _ st_s.1.2.1)) (fun j hj => by
    have : j = 0 := by omega
    subst this
    exact va_eqt (hs _ st_s.1.2.2)) hA
  obtain ⟨t1, e1, T1⟩ := va_Tof (f := fun _ => .int 0) (A := Ax s) (N := 1) (by decide) (hs _ st_s.2.1.1) (va_eqt (hs _ st_s.2.1.2.1)) (fun j hj => by
    have : j = 0 := by omega
    subst this
    exact va_eqt (hs _ st_s.2.1.2.2)) hA
  obtain ⟨t2, e2, T2⟩ := va_Tof (f := fun j => .long (tenJ j)) (A := Ax s) (N := 13) (by decide) (hs _ st_s.2.2.1.1) (va_eqt (hs _ st_s.2.2.1.2)) (fun j hj => va_eqtl (hs _ (st_t j hj))) hA
  obtain ⟨t3, T3⟩ : ∃ t3 : Nat, va_Z "jdk/internal/util/Preconditions" "SIOOBE_FORMATTER" "Ljava/util/function/BiFunction;" (va_rf (opS t3)) (Ax s) s s.heap := by
    rcases va_Zqof (hts _ st_f.2.1) (hts _ st_f.2.2) (hs _ st_f.1) hA with q | ⟨t, q⟩
    · exact ⟨0, q⟩
    · exact ⟨t + 1, q⟩
  -- Strings
  have hst : ∀ i : Nat, ∃ av : Nat × Nat, ∀ q, strTab[i]? = some q → vk_R q.1 q.2.1 q.2.2.1 av.1 s ∧ va_O "java/lang/String" av.1 (Ax s) s s.heap ∧ va_OF "java/lang/String" "coder" "B" (.int 0) av.1 (Ax s) s s.heap ∧ va_OF "java/lang/String" "value" "[B" (.ref av.2) av.1 (Ax s) s s.heap ∧ va_T .byte av.2 (sby q.2.2.1).length (fun j => .int ((sby q.2.2.1).getD j 0)) (Ax s) s s.heap := by
    intro i
    cases hi : strTab[i]? with
    | none => exact ⟨(0, 0), fun q hq => by cases hq⟩
    | some q =>
      obtain ⟨a, v, h1, h2⟩ := str_p hs hts (List.mem_of_getElem? hi)
      exact ⟨(a, v), fun q' hq => by cases hq; exact ⟨h1, h2⟩⟩
  obtain ⟨av, hav⟩ := Classical.axiomOfChoice hst
  let st : Nat → Nat := fun k => if k = 0 then t0 else if k = 1 then t1 else if k = 2 then t2 else if k = 3 then t3 else (av (k - 10)).1
  have st0 : st 0 = t0 := rfl
  have st1 : st 1 = t1 := rfl
  have st2 : st 2 = t2 := rfl
  have stq : ∀ q ∈ strTab, ∃ v, vk_R q.1 q.2.1 q.2.2.1 (st q.2.2.2) s ∧ va_O "java/lang/String" (st q.2.2.2) (Ax s) s s.heap ∧ va_OF "java/lang/String" "coder" "B" (.int 0) (st q.2.2.2) (Ax s) s s.heap ∧ va_OF "java/lang/String" "value" "[B" (.ref v) (st q.2.2.2) (Ax s) s s.heap ∧ va_T .byte v (sby q.2.2.1).length (fun j => .int ((sby q.2.2.1).getD j 0)) (Ax s) s s.heap ∧ v = (av (q.2.2.2 - 10)).2 := by
    intro q hq
    obtain ⟨c1, c2, c3⟩ := st_i2 q hq
    have hh := hav (q.2.2.2 - 10) q c3
    have e : st q.2.2.2 = (av (q.2.2.2 - 10)).1 := by
      show (if q.2.2.2 = 0 then t0 else if q.2.2.2 = 1 then t1 else if q.2.2.2 = 2 then t2 else if q.2.2.2 = 3 then t3 else (av (q.2.2.2 - 10)).1) = _
      rw [if_neg (by omega), if_neg (by omega), if_neg (by omega), if_neg (by omega)]
    rw [e]
    exact ⟨_, hh.1, hh.2.1, hh.2.2.1, hh.2.2.2.1, hh.2.2.2.2, rfl⟩
  let E : Ev := ((fun ci => (dd ci).1, fun ci => (dd ci).2), (fun k => if k = 13 then y13 else if k = 14 then y14 else if k = 15 then y15 else if k = 16 then y16 else if k = 17 then y17 else if k = 18 then y18 else if k = 19 then y19 else y20), st)
  have isV : ∀ a, (∃ q ∈ strTab, a = (av (q.2.2.2 - 10)).2) → ∃ (N : Nat) (f : Nat → Int32), va_T .byte a N (fun j => .int (f j)) (Ax s) s s.heap ∧ N < 2147483648 := by
    rintro a ⟨q, hq, rfl⟩
    obtain ⟨v, g1, g2, g3, g4, g5, rfl⟩ := stq q hq
    exact ⟨_, fun j => (sby q.2.2.1).getD j 0, g5, (st_c q hq).2⟩
  let K : Nat → Nat := fun a => if strTab.any (fun q => a == (av (q.2.2.2 - 10)).2) = true then 33 else if a = t0 ∨ a = t1 then 34 else if a = t2 then 35 else 99
  let R0 : Nat → Nat → Option Nat := fun a _ => (strTab.find? (fun q => st q.2.2.2 == a)).map (fun q => (av (q.2.2.2 - 10)).2)
  let z : Sh := (K, inN s, s.heap.size, 0, st)
  let h : Hp := (inI s, inJ s, R0)
  have hany : ∀ a, strTab.any (fun q => a == (av (q.2.2.2 - 10)).2) = true → ∃ q ∈ strTab, a = (av (q.2.2.2 - 10)).2 := by
    intro a ha
    obtain ⟨q, h1, h2⟩ := List.any_eq_true.mp ha
    exact ⟨q, h1, by simpa using h2⟩
  have hK33 : ∀ q ∈ strTab, K (av (q.2.2.2 - 10)).2 = 33 := by
    intro q hq
    have : strTab.any (fun q2 => (av (q.2.2.2 - 10)).2 == (av (q2.2.2.2 - 10)).2) = true := List.any_eq_true.mpr ⟨q, hq, by simp⟩
    show (if strTab.any (fun q2 => (av (q.2.2.2 - 10)).2 == (av (q2.2.2.2 - 10)).2) = true then 33 else _) = 33
    rw [if_pos this]
  have nb : ∀ {ty : FieldType} {t N : Nat} {f : Nat → Value}, va_T ty t N f (Ax s) s s.heap → ty ≠ .byte → ¬ strTab.any (fun q => t == (av (q.2.2.2 - 10)).2) = true := by
    intro ty t N f hT hne ha
    obtain ⟨N2, f2, hT2, -⟩ := isV t (hany t ha)
    exact hne (hT.ty1 hT2)
  have hK0 : K t0 = 34 := by
    show (if _ then _ else if _ then _ else _) = 34
    rw [if_neg (nb T0 (fun h => by cases h)), if_pos (Or.inl rfl)]
  have hK1 : K t1 = 34 := by
    show (if _ then _ else if _ then _ else _) = 34
    rw [if_neg (nb T1 (fun h => by cases h)), if_pos (Or.inr rfl)]
  have hK2 : K t2 = 35 := by
    show (if _ then _ else if _ then _ else if _ then _ else _) = 35
    rw [if_neg (nb T2 (fun h => by cases h)), if_neg (fun q => by
      rcases q with q | q
      · exact absurd (T2.ty1 (q ▸ T0)) (fun h => by cases h)
      · exact absurd (T2.ty1 (q ▸ T1)) (fun h => by cases h)), if_pos rfl]
  have hKc : ∀ a, (K a = 33 ∧ ∃ q ∈ strTab, a = (av (q.2.2.2 - 10)).2) ∨ (K a = 34 ∧ (a = t0 ∨ a = t1)) ∨ (K a = 35 ∧ a = t2) ∨ K a = 99 := by
    intro a
    by_cases c1 : strTab.any (fun q => a == (av (q.2.2.2 - 10)).2) = true
    · exact Or.inl ⟨by show (if _ then _ else _) = 33; rw [if_pos c1], hany a c1⟩
    · by_cases c2 : a = t0 ∨ a = t1
      · exact Or.inr (Or.inl ⟨by show (if _ then _ else if _ then _ else _) = 34; rw [if_neg c1, if_pos c2], c2⟩)
      · by_cases c3 : a = t2
        · exact Or.inr (Or.inr (Or.inl ⟨by show (if _ then _ else if _ then _ else if _ then _ else _) = 35; rw [if_neg c1, if_neg c2, if_pos c3], c3⟩))
        · exact Or.inr (Or.inr (Or.inr (by show (if _ then _ else if _ then _ else if _ then _ else _) = 99; rw [if_neg c1, if_neg c2, if_neg c3])))
  have hR : ∀ q ∈ strTab, R0 (st q.2.2.2) 0 = some (av (q.2.2.2 - 10)).2 := by
    intro q hq
    have hsome : (strTab.find? (fun q2 => st q2.2.2.2 == st q.2.2.2)).isSome = true := List.find?_isSome.mpr ⟨q, hq, by simp⟩
    obtain ⟨q2, h2⟩ := Option.isSome_iff_exists.mp hsome
    have hm := List.mem_of_find?_eq_some h2
    have he : st q2.2.2.2 = st q.2.2.2 := by simpa using List.find?_some h2
    obtain ⟨v, g1, g2, g3, g4, g5, rfl⟩ := stq q hq
    obtain ⟨v2, k1, k2, k3, k4, k5, rfl⟩ := stq q2 hm
    show (strTab.find? (fun q2 => st q2.2.2.2 == st q.2.2.2)).map _ = _
    rw [h2]
    rw [he] at k4
    exact congrArg some (va_OF.one k4 g4)
  have zK : ∀ a, z.K a = K a := fun _ => rfl
  have hge : ∀ a, 21 ≤ z.K a := by
    intro a
    rw [zK]
    rcases hKc a with q | q | q | q
    · rw [q.1]; decide
    · rw [q.1]; decide
    · rw [q.1]; decide
    · rw [q]; decide
  have hT33 : ∀ a, K a = 33 → va_T .byte a (inN s a) (fun j => .int (inI s a j)) (Ax s) s s.heap := by
    intro a ha
    rcases hKc a with q | q | q | q
    · obtain ⟨N, f, hT, hN⟩ := isV a q.2
      rw [inN_of hT hN]
      exact hT.eqf (fun j hj => by rw [inI_of hT hj])
    · rw [q.1] at ha; omega
    · rw [q.1] at ha; omega
    · rw [q] at ha; omega
  have hT34 : ∀ a, K a = 34 → va_T .int a (inN s a) (fun j => .int (inI s a j)) (Ax s) s s.heap := by
    intro a ha
    rcases hKc a with q | q | q | q
    · rw [q.1] at ha; omega
    · rcases q.2 with rfl | rfl
      · rw [inN_of T0 (by decide)]
        exact T0.eqf (fun j hj => by rw [inI_of (f := fun _ => 1) T0 hj])
      · rw [inN_of T1 (by decide)]
        exact T1.eqf (fun j hj => by rw [inI_of (f := fun _ => 0) T1 hj])
    · rw [q.1] at ha; omega
    · rw [q] at ha; omega
  have hT35 : ∀ a, K a = 35 → va_T .long a (inN s a) (fun j => .long (inJ s a j)) (Ax s) s s.heap := by
    intro a ha
    rcases hKc a with q | q | q | q
    · rw [q.1] at ha; omega
    · rw [q.1] at ha; omega
    · rw [q.2, inN_of T2 (by decide)]
      exact T2.eqf (fun j hj => by rw [inJ_of (f := tenJ) T2 hj])
    · rw [q] at ha; omega
  refine ⟨E, z, h, ⟨⟨fun ci r hr => hdd ci r hr, fun k q hk => ?_⟩, ⟨_, hts⟩, ?_, ?_, ?_, ?_, ?_⟩, ⟨?_, va_S.rf, fun a ha => absurd (hge a) (by omega), fun _ => rfl, hT33, hT34, hT35, ?_⟩, rfl, hge, ?_, rfl, ⟨hK0, inN_of T0 (by decide), inI_of (f := fun _ => 1) T0 (by decide)⟩, ⟨hK1, inN_of T1 (by decide), inI_of (f := fun _ => 0) T1 (by decide)⟩, ⟨hK2, inN_of T2 (by decide), fun j hj => inJ_of (f := tenJ) T2 hj⟩, ?_⟩
  · match k, hk with
    | 0, hk => cases hk; exact b13
    | 1, hk => cases hk; exact b14
    | 2, hk => cases hk; exact b15
    | 3, hk => cases hk; exact b16
    | 4, hk => cases hk; exact b17
    | 5, hk => cases hk; exact b18
    | 6, hk => cases hk; exact b19
    | 7, hk => cases hk; exact b20
    | k + 8, hk => cases hk
  · exact va_Zof (hts _ st_w.1.1) (hts _ st_w.2.1) e0 hA
  · exact va_Zof (hts _ st_w.1.2.1) (hts _ st_w.2.1) e1 hA
  · exact va_Zof (hts _ st_w.1.2.2.1) (hts _ st_w.2.2.1) e2 hA
  · exact ⟨va_Zof (hts _ st_w.1.2.2.2) (hts _ st_w.2.2.2) (va_eqi (hs _ st_s.2.2.2)) hA, T3⟩
  · intro q hq
    obtain ⟨v, g1, g2, g3, g4, g5, g6⟩ := stq q hq
    exact g1
  · intro k q hk
    have e1 : pL s z = [] := by
      show List.range' s.heap.size (s.heap.size - s.heap.size) = []
      rw [Nat.sub_self]
      rfl
    rw [e1] at hk
    cases hk
  · intro a ha
    obtain ⟨i, h1, h2⟩ := List.any_eq_true.mp ha
    obtain ⟨q, h3, h4⟩ := st_i i (List.mem_range.mp h1)
    have hq := List.mem_of_getElem? h3
    have e1 : st q.2.2.2 = a := by
      rw [h4]
      have h5 : z.st (10 + i) = a := by simpa using h2
      exact h5
    obtain ⟨v, g1, g2, g3, g4, g5, g6⟩ := stq q hq
    rw [← e1]
    exact ⟨g2, g3, (av (q.2.2.2 - 10)).2, hR q hq, g6 ▸ g4⟩
  · intro a ha
    rcases hKc a with q | q | q | q
    · obtain ⟨N, f, hT, hN⟩ := isV a q.2
      have := hT.lt
      have e1 : z.sz = s.heap.size := rfl
      omega
    · have e1 : z.sz = s.heap.size := rfl
      have h0 := T0.lt
      have h1 := T1.lt
      rcases q.2 with rfl | rfl <;> omega
    · have e1 : z.sz = s.heap.size := rfl
      have h0 := T2.lt
      have := q.2
      omega
    · exact q
  · intro q hq
    obtain ⟨v, g1, g2, g3, g4, g5, rfl⟩ := stq q hq
    refine ⟨?_, _, hR q hq, hK33 q hq, inN_of g5 (st_c q hq).2, fun j hj => inI_of (f := fun j => (sby q.2.2.1).getD j 0) g5 hj⟩
    obtain ⟨cell, k1, -⟩ := g2
    exact (Array.getElem?_eq_some_iff.mp k1).1
