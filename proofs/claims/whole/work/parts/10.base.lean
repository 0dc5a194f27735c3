/-! ===== the heap as one picture: shapes (kind, length, next address, slots so far) and contents (ints, longs, references), by address ===== -/
def Sh : Type := (Nat → Nat) × (Nat → Nat) × Nat × Nat × (Nat → Nat)
def Sh.K (z : Sh) (a : Nat) : Nat := z.1 a
def Sh.N (z : Sh) (a : Nat) : Nat := z.2.1 a
def Sh.sz (z : Sh) : Nat := z.2.2.1
def Sh.sl (z : Sh) : Nat := z.2.2.2.1
/-- addresses of the statics: 0 ALWAYS_ONE, 1 ALWAYS_ZERO, 2 TENS, from 10 on the String constants -/
def Sh.st (z : Sh) (k : Nat) : Nat := z.2.2.2.2 k
/-- is it one of the String constants -/
def Sh.isS (z : Sh) (a : Nat) : Bool := (List.range 38).any (fun i => z.st (10 + i) == a)
def Hp : Type := (Nat → Nat → Int32) × (Nat → Nat → Int64) × (Nat → Nat → Option Nat)
def Hp.I (h : Hp) (a : Nat) : Nat → Int32 := h.1 a
def Hp.J (h : Hp) (a : Nat) : Nat → Int64 := h.2.1 a
def Hp.R (h : Hp) (a : Nat) : Nat → Option Nat := h.2.2 a
def Hp.rowI (h : Hp) (a : Nat) (f : Nat → Int32) : Hp := (va_up h.1 a f, h.2.1, h.2.2)
def Hp.rowJ (h : Hp) (a : Nat) (f : Nat → Int64) : Hp := (h.1, va_up h.2.1 a f, h.2.2)
def Hp.rowR (h : Hp) (a : Nat) (f : Nat → Option Nat) : Hp := (h.1, h.2.1, va_up h.2.2 a f)
def Hp.setI (h : Hp) (a k : Nat) (v : Int32) : Hp := h.rowI a (upd (h.I a) k v)
def Hp.setJ (h : Hp) (a k : Nat) (v : Int64) : Hp := h.rowJ a (vp_updL (h.J a) k v)
def Hp.setR (h : Hp) (a k : Nat) (v : Option Nat) : Hp := h.rowR a (va_up (h.R a) k v)
/-- how many fields, and which of them are references -/
def nf (ci : Nat) : Nat := match ci with
  | 0 => 5 | 1 => 4 | 2 => 3 | 3 => 1 | 4 => 3 | 5 => 3 | 6 => 12 | 7 => 2 | 8 => 10 | 9 => 4 | 10 => 9 | 11 => 16 | _ => 36
def rb (ci k : Nat) : Bool := match ci with
  | 0 => true
  | 1 => true
  | 2 => k == 0
  | 3 => true
  | 4 => k == 0
  | 5 => k == 0
  | 6 => k == 2 || k == 8 || k == 10
  | 7 => true
  | 8 => Nat.ble 6 k
  | 9 => k == 0
  | 10 => Nat.ble k 3
  | 11 => !(k == 1)
  | _ => k == 1 || k == 2 || k == 3 || k == 4 || k == 16 || k == 17 || k == 18 || k == 21 || k == 22 || k == 23 || k == 24 || k == 27 || k == 28 || k == 29 || k == 30 || k == 31 || k == 33 || k == 34 || k == 35
def Ev : Type := va_G × (Nat → ClassId) × (Nat → Nat)
def Ev.D (E : Ev) : va_G := E.1
def Ev.cy (E : Ev) : Nat → ClassId := E.2.1
def Ev.st (E : Ev) : Nat → Nat := E.2.2
/-- a field's value -/
def fv (h : Hp) (ci a k : Nat) : Value := if rb ci k then va_rf (h.R a k) else .int (h.I a k)
def obl (h : Hp) (ci a : Nat) : List Value := (List.range (nf ci)).map (fv h ci a)
/-- what a cell holds, by its kind: 0 to 12 objects; 13 byte[], 14 int[], 15 long[], 16 boolean[]; 17 to 20 arrays of references -/
def cf (E : Ev) (z : Sh) (h : Hp) (a : Nat) : va_E :=
  if z.K a < 13 then .inr (z.K a, obl h (z.K a) a)
  else if z.K a = 15 then .inl (E.cy 15, z.N a, .inr (.inl (h.J a)))
  else if z.K a < 17 then .inl (E.cy (z.K a), z.N a, .inl (h.I a))
  else .inl (E.cy (z.K a), z.N a, .inr (.inr (.inr (.inr (h.R a)))))
abbrev tysE (E : Ev) : List (ClassId × FieldType) := [(E.cy 13, .byte), (E.cy 14, .int), (E.cy 15, .long), (E.cy 16, .boolean), (E.cy 17, .object RX3), (E.cy 18, .object RX5), (E.cy 19, .object RX8), (E.cy 20, .object RX9)]
def pL (s0 : State) (z : Sh) : List Nat := List.range' s0.heap.size (z.sz - s0.heap.size)
theorem pL_mem {s0 : State} {z : Sh} {a : Nat} (h : s0.heap.size ≤ a) (h2 : a < z.sz) : a ∈ pL s0 z := by
  unfold pL
  rw [List.mem_range'_1]
  omega
theorem pL_in {s0 : State} {z : Sh} {a : Nat} (h : a ∈ pL s0 z) : s0.heap.size ≤ a ∧ a < z.sz := by
  unfold pL at h
  rw [List.mem_range'_1] at h
  omega
def Ax (s0 : State) (q : Nat) : Prop := s0.heap.size ≤ q
theorem pL_D (s0 : State) (z : Sh) (f : Nat → va_E) : va_D (Ax s0) (va_pl (pL s0 z) f) := by
  refine ⟨fun i j x y hx hy hxy => ?_, fun k q hk => ?_⟩
  · simp only [va_pl, List.getElem?_map, Option.map_eq_some_iff, pL] at hx hy
    obtain ⟨a, ha, rfl⟩ := hx
    obtain ⟨b, hb, rfl⟩ := hy
    have e : a = b := hxy
    subst e
    have h1 := List.getElem?_eq_some_iff.mp ha
    have h2 := List.getElem?_eq_some_iff.mp hb
    obtain ⟨l1, e1⟩ := h1
    obtain ⟨l2, e2⟩ := h2
    rw [List.getElem_range'] at e1 e2
    omega
  · simp only [va_pl, List.getElem?_map, Option.map_eq_some_iff] at hk
    obtain ⟨a, ha, rfl⟩ := hk
    exact (pL_in (List.mem_of_getElem? ha)).1
def strTab : List (String × Nat × String × Nat) := [("SecondLife$Reader", 242, ";:+-*()[]=<>", 10), ("SecondLife$Reader", 65, "town", 11), ("SecondLife$Reader", 71, "years", 12), ("SecondLife$Reader", 79, "trades", 13), ("SecondLife$Reader", 117, ";", 14), ("SecondLife$Reader", 86, "person", 15), ("SecondLife$Reader", 122, "talent", 16), ("SecondLife$Reader", 124, "fear", 17), ("SecondLife$Reader", 94, "cash", 18), ("SecondLife$Reader", 98, "dies", 19), ("SecondLife$Reader", 102, "worth", 20), ("SecondLife$Reader", 104, "grows", 21), ("SecondLife$Reader", 130, ":", 22), ("SecondLife$Reader", 165, "(", 23), ("SecondLife$Reader", 170, ")", 24), ("SecondLife$Reader", 172, "if", 25), ("SecondLife$Reader", 209, "not", 26), ("SecondLife$Reader", 211, "[", 27), ("SecondLife$Reader", 213, "]", 28), ("SecondLife$Reader", 215, "=", 29), ("SecondLife$Reader", 217, "<", 30), ("SecondLife$Reader", 219, ">", 31), ("SecondLife$Reader", 207, "and", 32), ("SecondLife$Reader", 202, "or", 33), ("SecondLife$Reader", 177, "then", 34), ("SecondLife$Reader", 179, "else", 35), ("SecondLife$Reader", 181, "end", 36), ("SecondLife$Reader", 187, "year", 37), ("SecondLife$Reader", 189, "trade", 38), ("SecondLife$Reader", 191, "last", 39), ("SecondLife$Reader", 193, "streak", 40), ("SecondLife$Reader", 195, "life", 41), ("SecondLife$Reader", 197, "old", 42), ("SecondLife$Reader", 163, "*", 43), ("SecondLife$Reader", 150, "+", 44), ("SecondLife$Reader", 152, "-", 45), ("SecondLifeModel", 88, " town years trades person talent fear cash dies worth grows if then else end year trade last streak life old and or not ", 46), ("SecondLifeModel", 126, ";:+-*()[]=<>", 47)]
/-- null or a place, as a number -/
def opS : Nat → Option Nat
  | 0 => none
  | a + 1 => some a
/-- what is given of the start -/
def Gl (s0 : State) (E : Ev) : Prop := va_K E.D vwCl (tysE E) s0 ∧ (∃ a0 : Array Value, ∀ w ∈ lw_tbl, w.before a0 s0 = true) ∧ va_Z "SecondLife$Town" "ALWAYS_ONE" "[I" (.ref (E.st 0)) (Ax s0) s0 s0.heap ∧ va_Z "SecondLife$Town" "ALWAYS_ZERO" "[I" (.ref (E.st 1)) (Ax s0) s0 s0.heap ∧ va_Z "SecondLife$Chances" "TENS" "[J" (.ref (E.st 2)) (Ax s0) s0 s0.heap ∧ (va_Z "java/lang/String" "COMPACT_STRINGS" "Z" (.int 1) (Ax s0) s0 s0.heap ∧ va_Z "jdk/internal/util/Preconditions" "SIOOBE_FORMATTER" "Ljava/util/function/BiFunction;" (va_rf (opS (E.st 3))) (Ax s0) s0 s0.heap) ∧ ∀ q ∈ strTab, vk_R q.1 q.2.1 q.2.2.1 (E.st q.2.2.2) s0
/-- what lies outside the pool: 33 byte[], 34 int[], 35 long[]; the String constants (their bytes: reference 0) -/
def Stt (s0 : State) (E : Ev) (z : Sh) (h : Hp) : Prop :=
  (∀ k, z.st k = E.st k) ∧ (∀ a, z.K a = 33 → va_T .byte a (z.N a) (fun j => .int (h.I a j)) (Ax s0) s0 s0.heap) ∧ (∀ a, z.K a = 34 → va_T .int a (z.N a) (fun j => .int (h.I a j)) (Ax s0) s0 s0.heap) ∧ (∀ a, z.K a = 35 → va_T .long a (z.N a) (fun j => .long (h.J a j)) (Ax s0) s0 s0.heap) ∧ ∀ a, z.isS a = true → va_O "java/lang/String" a (Ax s0) s0 s0.heap ∧ va_OF "java/lang/String" "coder" "B" (.int 0) a (Ax s0) s0 s0.heap ∧ ∃ v, h.R a 0 = some v ∧ va_OF "java/lang/String" "value" "[B" (.ref v) a (Ax s0) s0 s0.heap
theorem Stt.wr {s0 : State} {E : Ev} {z : Sh} {h h' : Hp} (hs : Stt s0 E z h) {a : Nat} (ha : s0.heap.size ≤ a) (hI : ∀ b, b ≠ a → h'.I b = h.I b) (hJ : ∀ b, b ≠ a → h'.J b = h.J b) (hR : ∀ b, b ≠ a → h'.R b = h.R b) : Stt s0 E z h' := by
  have ne : ∀ {ty : FieldType} {b N : Nat} {f : Nat → Value}, va_T ty b N f (Ax s0) s0 s0.heap → b ≠ a := by
    intro ty b N f ht q
    obtain ⟨cell, h1, h2, h3, h4, h5, h6, h7⟩ := ht
    exact h7 (by rw [q]; exact ha)
  refine ⟨hs.1, fun b hb => ?_, fun b hb => ?_, fun b hb => ?_, fun b hb => ?_⟩
  · have h1 := hs.2.1 b hb
    rw [hI b (ne h1)]
    exact h1
  · have h1 := hs.2.2.1 b hb
    rw [hI b (ne h1)]
    exact h1
  · have h1 := hs.2.2.2.1 b hb
    rw [hJ b (ne h1)]
    exact h1
  · have h1 := hs.2.2.2.2 b hb
    have hn : b ≠ a := fun q => by
      obtain ⟨cell, k1, k2, k3, k4⟩ := h1.1
      exact k4 (by rw [q]; exact ha)
    rw [hR b hn]
    exact h1
/-- the world in a walk: pool, what has changed since the method began, the domain of the kinds, what lies outside -/
def Pw (s0 s : State) (E : Ev) (z : Sh) (h : Hp) (H : Heap) (locs : List Loc) : Prop :=
  va_P E.D vwCl (va_pl (pL s0 z) (cf E z h)) H ∧ va_S (Ax s0) s.heap H locs ∧ (∀ a, z.K a < 21 → s0.heap.size ≤ a ∧ a < z.sz) ∧ Stt s0 E z h
/-- the world at a method's two ends -/
def In (s0 : State) (E : Ev) (z : Sh) (h : Hp) (U : State) : Prop :=
  U.heap.size = z.sz ∧ s0.heap.size ≤ z.sz ∧ s0.WarmedH U.vm ∧ (∀ q, q < s0.heap.size → U.heap[q]? = s0.heap[q]?) ∧ va_P E.D vwCl (va_pl (pL s0 z) (cf E z h)) U.heap ∧ (∀ a, z.K a < 21 → s0.heap.size ≤ a ∧ a < z.sz) ∧ Stt s0 E z h
/-- a method's contract: with these arguments, from this picture, it answers r and leaves that picture -/
def Qt (s0 : State) (E : Ev) (z : Sh) (h : Hp) (r : Option Value) : Array Value → State → Outcome → State → Prop := fun _ st oc t => oc = .returned r ∧ In s0 E z h t ∧ va_F (Ax s0) st t
def Ct (l : Launch) (s0 : State) (E : Ev) (y : MethodName) (cc : ByteArray) (nL : Nat) (ret : Option FieldType) (fr lc : Nat) (As : List Value) (z : Sh) (h h' : Hp) (r : Option Value) : Prop :=
  Met l y [.code y cc nL ret] { frames := fr, cells := 0, slots := 0, locals := lc } (va_Pc As (In s0 E z h)) (Qt s0 E z h' r) 0 0 (Ax s0)
/-- the same of a method that makes cells -/
def Ca (l : Launch) (s0 : State) (E : Ev) (y : MethodName) (cc : ByteArray) (nL : Nat) (ret : Option FieldType) (fr lc : Nat) (As : List Value) (z z' : Sh) (h h' : Hp) (r : Option Value) : Prop :=
  Met l y [.code y cc nL ret] { frames := fr, cells := z'.sz - z.sz, slots := z'.sl - z.sl, locals := lc } (va_Pc As (In s0 E z h)) (Qt s0 E z' h' r) (z'.sz - z.sz) (z'.sl - z.sl) (Ax s0)
/-- what stays fixed in a method's body -/
def Bd (p : Program) (s0 s : State) (E : Ev) (m : MethodId) (c : Code) (cc : ByteArray) (nL : Nat) (own : String) : Prop :=
  p.tables.exec = Jvm.exec ∧ c.code = cc ∧ c.maxLocals = nL ∧ s.vm.findClass own = some m.cls ∧ s0.WarmedH s.vm ∧ Gl s0 E ∧ (∀ q, q < s0.heap.size → s.heap[q]? = s0.heap[q]?) ∧ s0.heap.size ≤ s.heap.size
theorem Bd.w {p : Program} {s0 s : State} {E : Ev} {m : MethodId} {c : Code} {cc : ByteArray} {nL : Nat} {own : String} (B : Bd p s0 s E m c cc nL own) {args : Array Value} {w : Cond} (hm : w ∈ lw_tbl) (hg : goodWord w = true) : w.before args s = true := by
  obtain ⟨a0, ha⟩ := B.2.2.2.2.2.1.2.1
  exact word_at B.2.2.2.2.1 (good_of_word hg) (ha w hm)
theorem Bd.nF {p : Program} {s0 s : State} {E : Ev} {m : MethodId} {c : Code} {cc : ByteArray} {nL : Nat} {own : String} (B : Bd p s0 s E m c cc nL own) {args : Array Value} {a : String} {i : Nat} {b n d g : String} (hm : Cond.fieldLinkNest a i b n d g ∈ lw_tbl) : (Cond.fieldLinkNest a i b n d g).before args s = true := by
  obtain ⟨a0, ha⟩ := B.2.2.2.2.2.1.2.1
  exact va_Nw.use rfl (va_Nw.warmF B.2.2.2.2.1 (va_Nw.of rfl (ha _ hm)))
theorem Bd.nM {p : Program} {s0 s : State} {E : Ev} {m : MethodId} {c : Code} {cc : ByteArray} {nL : Nat} {own : String} (B : Bd p s0 s E m c cc nL own) {a : String} {i : Nat} {x : MethodName} {g : String} (hm : Cond.methodLinkNest a i x g ∈ lw_tbl) : va_Nw (.methodLinkNest a i x g) s := by
  obtain ⟨a0, ha⟩ := B.2.2.2.2.2.1.2.1
  exact va_Nw.warmM B.2.2.2.2.1 (va_Nw.of rfl (ha _ hm))
theorem Bd.K {p : Program} {s0 s : State} {E : Ev} {m : MethodId} {c : Code} {cc : ByteArray} {nL : Nat} {own : String} (B : Bd p s0 s E m c cc nL own) : va_K E.D vwCl (tysE E) s := va_K.moved B.2.2.2.2.1.alike B.2.2.2.2.2.1.1
/-- fields of all classes are among the words -/
theorem u_in0 : ∀ q ∈ vwCl, ∀ w ∈ u_ws q.1 q.2.1 q.2.2, w ∈ lw_tbl ∧ goodWord w = true := by decide +kernel
theorem Bd.u {p : Program} {s0 s : State} {E : Ev} {m : MethodId} {c : Code} {cc : ByteArray} {nL : Nat} {own : String} (B : Bd p s0 s E m c cc nL own) {args : Array Value} {ci : Nat} {C : String} {T : u_T} {N : Nat} (hc : vwCl[ci]? = some (C, T, N)) : ∀ w ∈ u_ws C T N, w.before args s = true := fun w hw => B.w (u_in0 _ (List.mem_of_getElem? hc) w hw).1 (u_in0 _ (List.mem_of_getElem? hc) w hw).2
