/-! ===== what the instructions do to the picture, as functions that fail where the machine would throw ===== -/
def gI (z : Sh) (h : Hp) (ci a k : Nat) : Option Int32 := if z.K a = ci then some (h.I a k) else none
def gR (z : Sh) (h : Hp) (ci a k : Nat) : Option Nat := if z.K a = ci then h.R a k else none
def gN (z : Sh) (h : Hp) (ci a k : Nat) : Option (Option Nat) := if z.K a = ci then some (h.R a k) else none
def pI (z : Sh) (h : Hp) (ci a k : Nat) (v : Int32) : Option Hp := if z.K a = ci then some (h.setI a k v) else none
def pZ (z : Sh) (h : Hp) (ci a k : Nat) (v : Int32) : Option Hp := if z.K a = ci then (if v = 0 ∨ v = 1 then some (h.setI a k v) else none) else none
def pR (z : Sh) (h : Hp) (ci a k : Nat) (v : Option Nat) : Option Hp := if z.K a = ci then some (h.setR a k v) else none
def isA (k : Nat) : Bool := (Nat.ble 13 k && Nat.ble k 20) || k == 33 || k == 34 || k == 35
def aL (z : Sh) (a : Nat) : Option Int32 := if isA (z.K a) = true then some (Int32.ofNat (z.N a)) else none
def ldI (z : Sh) (h : Hp) (a : Nat) (i : Int32) : Option Int32 := if z.K a = 14 ∨ z.K a = 34 then (if ¬ (i < 0 ∨ z.N a ≤ i.toNatClampNeg) then some (h.I a i.toNatClampNeg) else none) else none
def ldJ (z : Sh) (h : Hp) (a : Nat) (i : Int32) : Option Int64 := if z.K a = 15 ∨ z.K a = 35 then (if ¬ (i < 0 ∨ z.N a ≤ i.toNatClampNeg) then some (h.J a i.toNatClampNeg) else none) else none
def ldB (z : Sh) (h : Hp) (a : Nat) (i : Int32) : Option Int32 := if z.K a = 13 ∨ z.K a = 33 then (if ¬ (i < 0 ∨ z.N a ≤ i.toNatClampNeg) then some (h.I a i.toNatClampNeg) else none) else none
def ldZ (z : Sh) (h : Hp) (a : Nat) (i : Int32) : Option Int32 := if z.K a = 16 then (if ¬ (i < 0 ∨ z.N a ≤ i.toNatClampNeg) then some (h.I a i.toNatClampNeg) else none) else none
def ldR (z : Sh) (h : Hp) (kd a : Nat) (i : Int32) : Option Nat := if z.K a = kd then (if ¬ (i < 0 ∨ z.N a ≤ i.toNatClampNeg) then h.R a i.toNatClampNeg else none) else none
def ldN (z : Sh) (h : Hp) (kd a : Nat) (i : Int32) : Option (Option Nat) := if z.K a = kd then (if ¬ (i < 0 ∨ z.N a ≤ i.toNatClampNeg) then some (h.R a i.toNatClampNeg) else none) else none
def stI (z : Sh) (h : Hp) (a : Nat) (i x : Int32) : Option Hp := if z.K a = 14 then (if ¬ (i < 0 ∨ z.N a ≤ i.toNatClampNeg) then some (h.setI a i.toNatClampNeg x) else none) else none
def stB (z : Sh) (h : Hp) (a : Nat) (i x : Int32) : Option Hp := if z.K a = 13 then (if ¬ (i < 0 ∨ z.N a ≤ i.toNatClampNeg) then some (h.setI a i.toNatClampNeg (vp_nar .byte x)) else none) else none
def stZ (z : Sh) (h : Hp) (a : Nat) (i x : Int32) : Option Hp := if z.K a = 16 then (if ¬ (i < 0 ∨ z.N a ≤ i.toNatClampNeg) then some (h.setI a i.toNatClampNeg (vp_nar .boolean x)) else none) else none
def stJ (z : Sh) (h : Hp) (a : Nat) (i : Int32) (x : Int64) : Option Hp := if z.K a = 15 then (if ¬ (i < 0 ∨ z.N a ≤ i.toNatClampNeg) then some (h.setJ a i.toNatClampNeg x) else none) else none
def stR (z : Sh) (h : Hp) (kd ck a : Nat) (i : Int32) (v : Nat) : Option Hp := if z.K a = kd ∧ z.K v = ck then (if ¬ (i < 0 ∨ z.N a ≤ i.toNatClampNeg) then some (h.setR a i.toNatClampNeg (some v)) else none) else none
/-- division, as the machine does it -/
def dvI (x y : Int32) : Option Int32 := if ¬ y = 0 then some (x / y) else none
def rmI (x y : Int32) : Option Int32 := if ¬ y = 0 then some (x - x / y * y) else none
def dvJ (x y : Int64) : Option Int64 := if ¬ y = 0 then some (x / y) else none
def rmJ (x y : Int64) : Option Int64 := if ¬ y = 0 then some (x - x / y * y) else none
/-- a boolean that is returned -/
def bz (x : Int32) : Option Int32 := if x = 0 ∨ x = 1 then some x else none
theorem ob {α β : Type} {x : Option α} {f : α → Option β} {b : β} (h : x.bind f = some b) : ∃ a, x = some a ∧ f a = some b := by
  cases x with
  | none => cases h
  | some a => exact ⟨a, rfl, h⟩
theorem if_some {α : Type} {c : Prop} [Decidable c] {x : Option α} {v : α} (h : (if c then x else none) = some v) : c ∧ x = some v := by
  by_cases hc : c
  · rw [if_pos hc] at h
    exact ⟨hc, h⟩
  · rw [if_neg hc] at h
    cases h
/-! the picture's cells -/
theorem cf_o {E : Ev} {z : Sh} {h : Hp} {a ci : Nat} (hK : z.K a = ci) (hc : ci < 13) : cf E z h a = .inr (ci, obl h ci a) := by
  subst hK
  simp only [cf, if_pos hc]
theorem cf_i {E : Ev} {z : Sh} {h : Hp} {a k : Nat} (hK : z.K a = k) (h1 : 13 ≤ k) (h2 : k < 17) (h3 : k ≠ 15) : cf E z h a = .inl (E.cy k, z.N a, .inl (h.I a)) := by
  subst hK
  simp only [cf, if_neg (Nat.not_lt.mpr h1), if_neg h3, if_pos h2]
theorem cf_j {E : Ev} {z : Sh} {h : Hp} {a : Nat} (hK : z.K a = 15) : cf E z h a = .inl (E.cy 15, z.N a, .inr (.inl (h.J a))) := by
  simp [cf, hK]
theorem cf_r {E : Ev} {z : Sh} {h : Hp} {a k : Nat} (hK : z.K a = k) (h1 : 17 ≤ k) : cf E z h a = .inl (E.cy k, z.N a, .inr (.inr (.inr (.inr (h.R a))))) := by
  subst hK
  have e1 : ¬ z.K a < 13 := by omega
  have e2 : ¬ z.K a = 15 := by omega
  have e3 : ¬ z.K a < 17 := by omega
  simp only [cf, if_neg e1, if_neg e2, if_neg e3]
theorem Pw.at {s0 s : State} {E : Ev} {z : Sh} {h : Hp} {H : Heap} {locs : List Loc} (hw : Pw s0 s E z h H locs) {a : Nat} (hK : z.K a < 21) : va_P E.D vwCl [(a, cf E z h a)] H := by
  obtain ⟨k, hk⟩ := va_pl_get (X := []) (f := cf E z h) (pL_mem (hw.2.2.1 a hK).1 (hw.2.2.1 a hK).2)
  intro j q hj
  match j, hj with
  | 0, hj =>
    cases hj
    exact hw.1 k _ hk
  | j + 1, hj => cases hj
theorem Pw.st {s0 s : State} {E : Ev} {z : Sh} {h : Hp} {H : Heap} {locs : List Loc} (hw : Pw s0 s E z h H locs) (hs : ∀ q, q < s0.heap.size → s.heap[q]? = s0.heap[q]?) (hz : s0.heap.size ≤ s.heap.size) {a : Nat} (hl : a < s0.heap.size) : H[a]? = s0.heap[a]? := by
  rw [hw.2.1.2.1 a (by omega) (fun q => by simp only [Ax] at q; omega)]
  exact hs a hl
theorem obl_at (h : Hp) (ci a j : Nat) : (obl h ci a)[j]? = if j < nf ci then some (fv h ci a j) else none := by
  by_cases hl : j < nf ci
  · rw [if_pos hl]
    simp [obl, List.getElem?_range hl]
  · rw [if_neg hl]
    exact List.getElem?_eq_none (by simp [obl]; omega)
theorem obl_get (h : Hp) (ci a : Nat) {k : Nat} (hk : k < nf ci) : (obl h ci a)[k]? = some (fv h ci a k) := by rw [obl_at, if_pos hk]
theorem obl_len (h : Hp) (ci a : Nat) : (obl h ci a).length = nf ci := by simp [obl]
theorem obl_put {h h' : Hp} {ci a k : Nat} {v : Value} (h1 : fv h' ci a k = v) (h2 : ∀ j, j ≠ k → fv h' ci a j = fv h ci a j) : (obl h ci a).set k v = obl h' ci a := by
  apply List.ext_getElem?
  intro j
  rw [List.getElem?_set, obl_at, obl_at, obl_len]
  by_cases hj : k = j
  · subst hj
    rw [if_pos rfl, h1]
  · rw [if_neg hj, h2 j (fun q => hj q.symm)]
theorem obl_I (h : Hp) (ci a k : Nat) (v : Int32) (hr : rb ci k = false) : (obl h ci a).set k (.int v) = obl (h.setI a k v) ci a := by
  refine obl_put ?_ (fun j hj => ?_)
  · simp [fv, hr, Hp.setI, Hp.rowI, Hp.I, va_up, upd]
  · simp [fv, Hp.setI, Hp.rowI, Hp.I, Hp.R, va_up, upd, hj]
theorem obl_R (h : Hp) (ci a k : Nat) (v : Option Nat) (hr : rb ci k = true) : (obl h ci a).set k (va_rf v) = obl (h.setR a k v) ci a := by
  refine obl_put ?_ (fun j hj => ?_)
  · simp [fv, hr, Hp.setR, Hp.rowR, Hp.R, va_up]
  · simp [fv, Hp.setR, Hp.rowR, Hp.I, Hp.R, va_up, hj]
/-- other cells stay as they are when one row is written -/
theorem cf_ne {E : Ev} {z : Sh} {h h' : Hp} {a b : Nat} (hI : h'.I b = h.I b) (hJ : h'.J b = h.J b) (hR : h'.R b = h.R b) : cf E z h' b = cf E z h b := by
  have e : obl h' (z.K b) b = obl h (z.K b) b := by
    simp only [obl]
    congr 1
    funext k
    simp only [fv, hI, hR]
  simp only [cf, e, hI, hJ, hR]
theorem rowI_ne (h : Hp) {a b : Nat} (f : Nat → Int32) (hb : b ≠ a) : (h.rowI a f).I b = h.I b := by simp [Hp.rowI, Hp.I, va_up, hb]
theorem rowJ_ne (h : Hp) {a b : Nat} (f : Nat → Int64) (hb : b ≠ a) : (h.rowJ a f).J b = h.J b := by simp [Hp.rowJ, Hp.J, va_up, hb]
theorem rowR_ne (h : Hp) {a b : Nat} (f : Nat → Option Nat) (hb : b ≠ a) : (h.rowR a f).R b = h.R b := by simp [Hp.rowR, Hp.R, va_up, hb]
theorem rowI_I (h : Hp) (a : Nat) (f : Nat → Int32) : (h.rowI a f).I a = f := by simp [Hp.rowI, Hp.I, va_up]
theorem rowJ_J (h : Hp) (a : Nat) (f : Nat → Int64) : (h.rowJ a f).J a = f := by simp [Hp.rowJ, Hp.J, va_up]
theorem rowR_R (h : Hp) (a : Nat) (f : Nat → Option Nat) : (h.rowR a f).R a = f := by simp [Hp.rowR, Hp.R, va_up]
/-- the world behind a store into one cell of the pool -/
theorem Pw.wr {s0 s : State} {E : Ev} {z : Sh} {h h' : Hp} {H H1 : Heap} {locs locs1 : List Loc} (hw : Pw s0 s E z h H locs) {a k : Nat} {e : va_E} (hK : z.K a < 21) (hk : (va_pl (pL s0 z) (cf E z h))[k]? = some (a, cf E z h a)) (he : cf E z h' a = e) (hI : ∀ b, b ≠ a → h'.I b = h.I b) (hJ : ∀ b, b ≠ a → h'.J b = h.J b) (hR : ∀ b, b ≠ a → h'.R b = h.R b) (hP : va_P E.D vwCl ((va_pl (pL s0 z) (cf E z h)).set k (a, e)) H1) (hS : va_S (Ax s0) s.heap H1 locs1) : Pw s0 s E z h' H1 locs1 := by
  have hd := hw.2.2.1 a hK
  refine ⟨?_, hS, hw.2.2.1, hw.2.2.2.wr hd.1 hI hJ hR⟩
  · have h1 := va_pl_set (X := []) (e := e) (pL_D s0 z (cf E z h)) (pL_mem hd.1 hd.2) hk
    rw [List.nil_append, List.nil_append] at h1
    rw [h1] at hP
    have h2 : va_pl (pL s0 z) (va_up (cf E z h) a e) = va_pl (pL s0 z) (cf E z h') := va_pl_congr (fun b => by
      by_cases hb : b = a
      · subst hb
        rw [va_up_self, he]
      · rw [va_up_ne _ _ hb, cf_ne (a := a) (hI b hb) (hJ b hb) (hR b hb)])
    rw [h2] at hP
    exact hP
theorem Pw.ix {s0 s : State} {E : Ev} {z : Sh} {h : Hp} {H : Heap} {locs : List Loc} (hw : Pw s0 s E z h H locs) {a : Nat} (hK : z.K a < 21) : ∃ k : Nat, (va_pl (pL s0 z) (cf E z h))[k]? = some (a, cf E z h a) := va_pl_get (X := []) (f := cf E z h) (pL_mem (hw.2.2.1 a hK).1 (hw.2.2.1 a hK).2)
section
variable {p : Program} {l : Launch} {e : Env} {R : Room} {s : State} {m : MethodId} {args : Array Value} {below : List Frame} {meth : Method} {c : Code} {H : Heap} {locs : List Loc} {cells slots : Nat} {Q : State → Prop} {pc : Nat} {ls : Array Slot} {rest : List Value} {s0 : State} {E : Ev} {z : Sh} {h : Hp} {cc : ByteArray} {nL : Nat} {own : String}
theorem q_getI {a ci k N index : Nat} {C ref : String} {T : u_T} {v : Int32} (hv : gI z h ci a k = some v) (B : Bd p s0 s E m c cc nL own) (hw : Pw s0 s E z h H locs) (hc : vwCl[ci]? = some (C, T, N)) (hci : ci < 13) (hk : k < N) (hkn : k < nf ci) (hr : rb ci k = false) (hs : (T k).1 = ref) (hl : (Cond.fieldLink own index ref (T k).2.1 (T k).2.2.1) ∈ lw_tbl) (hd : decode cc pc = .ok (.getfield index, 3))
    (kk : W p l e R s m args below meth c H locs cells slots Q (F0 m (pc + 3) ls (.int v :: rest))) : W p l e R s m args below meth c H locs cells slots Q (F0 m pc ls (.ref a :: rest)) := by
  obtain ⟨hK, hv⟩ := if_some hv
  cases hv
  have hP := hw.at (a := a) (by omega)
  rw [cf_o hK hci] at hP
  exact va_get B.1 B.2.1 (B.u hc) (fun _ q => q) B.2.2.2.1 B.K hP 0 rfl hc k hk (B.w hl rfl) (fun _ q => by rw [hs] at q; exact q) (v := .int (h.I a k)) (by rw [obl_get h ci a hkn]; simp [fv, hr]) hd kk
theorem q_getR {a ci k N index : Nat} {C ref : String} {T : u_T} {v : Nat} (hv : gR z h ci a k = some v) (B : Bd p s0 s E m c cc nL own) (hw : Pw s0 s E z h H locs) (hc : vwCl[ci]? = some (C, T, N)) (hci : ci < 13) (hk : k < N) (hkn : k < nf ci) (hr : rb ci k = true) (hs : (T k).1 = ref) (hl : (Cond.fieldLink own index ref (T k).2.1 (T k).2.2.1) ∈ lw_tbl) (hd : decode cc pc = .ok (.getfield index, 3))
    (kk : W p l e R s m args below meth c H locs cells slots Q (F0 m (pc + 3) ls (.ref v :: rest))) : W p l e R s m args below meth c H locs cells slots Q (F0 m pc ls (.ref a :: rest)) := by
  obtain ⟨hK, hv⟩ := if_some hv
  have hP := hw.at (a := a) (by omega)
  rw [cf_o hK hci] at hP
  exact va_get B.1 B.2.1 (B.u hc) (fun _ q => q) B.2.2.2.1 B.K hP 0 rfl hc k hk (B.w hl rfl) (fun _ q => by rw [hs] at q; exact q) (v := .ref v) (by rw [obl_get h ci a hkn]; simp [fv, hr, hv, va_rf]) hd kk
theorem q_getNl {a ci k N index : Nat} {C ref : String} {T : u_T} {v : Option Nat} (hv : gN z h ci a k = some v) (B : Bd p s0 s E m c cc nL own) (hw : Pw s0 s E z h H locs) (hc : vwCl[ci]? = some (C, T, N)) (hci : ci < 13) (hk : k < N) (hkn : k < nf ci) (hr : rb ci k = true) (hs : (T k).1 = ref) (hl : (Cond.fieldLink own index ref (T k).2.1 (T k).2.2.1) ∈ lw_tbl) (hd : decode cc pc = .ok (.getfield index, 3))
    (kk : W p l e R s m args below meth c H locs cells slots Q (F0 m (pc + 3) ls (va_rf v :: rest))) : W p l e R s m args below meth c H locs cells slots Q (F0 m pc ls (.ref a :: rest)) := by
  obtain ⟨hK, hv⟩ := if_some hv
  cases hv
  have hP := hw.at (a := a) (by omega)
  rw [cf_o hK hci] at hP
  exact va_get B.1 B.2.1 (B.u hc) (fun _ q => q) B.2.2.2.1 B.K hP 0 rfl hc k hk (B.w hl rfl) (fun _ q => by rw [hs] at q; exact q) (v := va_rf (h.R a k)) (by rw [obl_get h ci a hkn]; simp [fv, hr]) hd kk
theorem q_getIN {a ci k N index : Nat} {C ref host : String} {T : u_T} {v : Int32} (hv : gI z h ci a k = some v) (B : Bd p s0 s E m c cc nL own) (hw : Pw s0 s E z h H locs) (hc : vwCl[ci]? = some (C, T, N)) (hci : ci < 13) (hk : k < N) (hkn : k < nf ci) (hr : rb ci k = false) (hs : (T k).1 = ref) (hl : (Cond.fieldLinkNest own index ref (T k).2.1 (T k).2.2.1 host) ∈ lw_tbl) (hd : decode cc pc = .ok (.getfield index, 3))
    (kk : W p l e R s m args below meth c H locs cells slots Q (F0 m (pc + 3) ls (.int v :: rest))) : W p l e R s m args below meth c H locs cells slots Q (F0 m pc ls (.ref a :: rest)) := by
  obtain ⟨hK, hv⟩ := if_some hv
  cases hv
  have hP := hw.at (a := a) (by omega)
  rw [cf_o hK hci] at hP
  exact va_getN B.1 B.2.1 (B.u hc) (fun _ q => q) B.2.2.2.1 B.K hP 0 rfl hc k hk (B.nF hl) (fun _ q => by rw [hs] at q; exact q) (v := .int (h.I a k)) (by rw [obl_get h ci a hkn]; simp [fv, hr]) hd kk
theorem q_getRN {a ci k N index : Nat} {C ref host : String} {T : u_T} {v : Nat} (hv : gR z h ci a k = some v) (B : Bd p s0 s E m c cc nL own) (hw : Pw s0 s E z h H locs) (hc : vwCl[ci]? = some (C, T, N)) (hci : ci < 13) (hk : k < N) (hkn : k < nf ci) (hr : rb ci k = true) (hs : (T k).1 = ref) (hl : (Cond.fieldLinkNest own index ref (T k).2.1 (T k).2.2.1 host) ∈ lw_tbl) (hd : decode cc pc = .ok (.getfield index, 3))
    (kk : W p l e R s m args below meth c H locs cells slots Q (F0 m (pc + 3) ls (.ref v :: rest))) : W p l e R s m args below meth c H locs cells slots Q (F0 m pc ls (.ref a :: rest)) := by
  obtain ⟨hK, hv⟩ := if_some hv
  have hP := hw.at (a := a) (by omega)
  rw [cf_o hK hci] at hP
  exact va_getN B.1 B.2.1 (B.u hc) (fun _ q => q) B.2.2.2.1 B.K hP 0 rfl hc k hk (B.nF hl) (fun _ q => by rw [hs] at q; exact q) (v := .ref v) (by rw [obl_get h ci a hkn]; simp [fv, hr, hv, va_rf]) hd kk
theorem q_getNlN {a ci k N index : Nat} {C ref host : String} {T : u_T} {v : Option Nat} (hv : gN z h ci a k = some v) (B : Bd p s0 s E m c cc nL own) (hw : Pw s0 s E z h H locs) (hc : vwCl[ci]? = some (C, T, N)) (hci : ci < 13) (hk : k < N) (hkn : k < nf ci) (hr : rb ci k = true) (hs : (T k).1 = ref) (hl : (Cond.fieldLinkNest own index ref (T k).2.1 (T k).2.2.1 host) ∈ lw_tbl) (hd : decode cc pc = .ok (.getfield index, 3))
    (kk : W p l e R s m args below meth c H locs cells slots Q (F0 m (pc + 3) ls (va_rf v :: rest))) : W p l e R s m args below meth c H locs cells slots Q (F0 m pc ls (.ref a :: rest)) := by
  obtain ⟨hK, hv⟩ := if_some hv
  cases hv
  have hP := hw.at (a := a) (by omega)
  rw [cf_o hK hci] at hP
  exact va_getN B.1 B.2.1 (B.u hc) (fun _ q => q) B.2.2.2.1 B.K hP 0 rfl hc k hk (B.nF hl) (fun _ q => by rw [hs] at q; exact q) (v := va_rf (h.R a k)) (by rw [obl_get h ci a hkn]; simp [fv, hr]) hd kk
end
