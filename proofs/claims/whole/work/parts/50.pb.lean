/-! ===== PURE PART, basics: what the small functions say where nothing fails ===== -/
theorem bS {α β : Type} (a : α) (f : α → Option β) : (some a).bind f = f a := rfl
theorem gI_ok {z : Sh} {h : Hp} {ci a k : Nat} (hK : z.K a = ci) : gI z h ci a k = some (h.I a k) := if_pos hK
theorem gR_ok {z : Sh} {h : Hp} {ci a k v : Nat} (hK : z.K a = ci) (hR : h.R a k = some v) : gR z h ci a k = some v := (if_pos hK).trans hR
theorem gN_ok {z : Sh} {h : Hp} {ci a k : Nat} (hK : z.K a = ci) : gN z h ci a k = some (h.R a k) := if_pos hK
theorem pI_ok {z : Sh} {h : Hp} {ci a k : Nat} {v : Int32} (hK : z.K a = ci) : pI z h ci a k v = some (h.setI a k v) := if_pos hK
theorem pR_ok {z : Sh} {h : Hp} {ci a k : Nat} {v : Option Nat} (hK : z.K a = ci) : pR z h ci a k v = some (h.setR a k v) := if_pos hK
theorem pZ_ok {z : Sh} {h : Hp} {ci a k : Nat} {v : Int32} (hK : z.K a = ci) (hv : v = 0 ∨ v = 1) : pZ z h ci a k v = some (h.setI a k v) := (if_pos hK).trans (if_pos hv)
theorem aL_ok {z : Sh} {a kd N : Nat} (hK : z.K a = kd) (hk : isA kd = true) (hN : z.N a = N) : aL z a = some (nI N) := by
  subst hK
  subst hN
  exact if_pos hk
theorem ix_ok {j N : Nat} (hj : j < N) (hN : N < 2147483648) : ¬ (nI j < 0 ∨ N ≤ (nI j).toNatClampNeg) := nI_in hj hN
theorem ldI_ok {z : Sh} {h : Hp} {a N j : Nat} {i : Int32} (hK : z.K a = 14) (hN : z.N a = N) (hi : i = nI j) (hj : j < N) (hb : N < 2147483648) : ldI z h a i = some (h.I a j) := by
  subst hi
  subst hN
  unfold ldI
  rw [if_pos (Or.inl hK), if_pos (ix_ok hj hb), nI_clamp (by omega)]
theorem ldIs_ok {z : Sh} {h : Hp} {a N j : Nat} {i : Int32} (hK : z.K a = 14 ∨ z.K a = 34) (hN : z.N a = N) (hi : i = nI j) (hj : j < N) (hb : N < 2147483648) : ldI z h a i = some (h.I a j) := by
  subst hi
  subst hN
  unfold ldI
  rw [if_pos hK, if_pos (ix_ok hj hb), nI_clamp (by omega)]
theorem ldJ_ok {z : Sh} {h : Hp} {a N j : Nat} {i : Int32} (hK : z.K a = 15 ∨ z.K a = 35) (hN : z.N a = N) (hi : i = nI j) (hj : j < N) (hb : N < 2147483648) : ldJ z h a i = some (h.J a j) := by
  subst hi
  subst hN
  unfold ldJ
  rw [if_pos hK, if_pos (ix_ok hj hb), nI_clamp (by omega)]
theorem ldB_ok {z : Sh} {h : Hp} {a N j : Nat} {i : Int32} (hK : z.K a = 13 ∨ z.K a = 33) (hN : z.N a = N) (hi : i = nI j) (hj : j < N) (hb : N < 2147483648) : ldB z h a i = some (h.I a j) := by
  subst hi
  subst hN
  unfold ldB
  rw [if_pos hK, if_pos (ix_ok hj hb), nI_clamp (by omega)]
theorem ldZ_ok {z : Sh} {h : Hp} {a N j : Nat} {i : Int32} (hK : z.K a = 16) (hN : z.N a = N) (hi : i = nI j) (hj : j < N) (hb : N < 2147483648) : ldZ z h a i = some (h.I a j) := by
  subst hi
  subst hN
  unfold ldZ
  rw [if_pos hK, if_pos (ix_ok hj hb), nI_clamp (by omega)]
theorem ldR_ok {z : Sh} {h : Hp} {a kd N j v : Nat} {i : Int32} (hK : z.K a = kd) (hN : z.N a = N) (hi : i = nI j) (hj : j < N) (hb : N < 2147483648) (hv : h.R a j = some v) : ldR z h kd a i = some v := by
  subst hi
  subst hN
  unfold ldR
  rw [if_pos hK, if_pos (ix_ok hj hb), nI_clamp (by omega)]
  exact hv
theorem ldN_ok {z : Sh} {h : Hp} {a kd N j : Nat} {i : Int32} (hK : z.K a = kd) (hN : z.N a = N) (hi : i = nI j) (hj : j < N) (hb : N < 2147483648) : ldN z h kd a i = some (h.R a j) := by
  subst hi
  subst hN
  unfold ldN
  rw [if_pos hK, if_pos (ix_ok hj hb), nI_clamp (by omega)]
theorem stI_ok {z : Sh} {h : Hp} {a N j : Nat} {i x : Int32} (hK : z.K a = 14) (hN : z.N a = N) (hi : i = nI j) (hj : j < N) (hb : N < 2147483648) : stI z h a i x = some (h.setI a j x) := by
  subst hi
  subst hN
  unfold stI
  rw [if_pos hK, if_pos (ix_ok hj hb), nI_clamp (by omega)]
theorem stB_ok {z : Sh} {h : Hp} {a N j : Nat} {i x : Int32} (hK : z.K a = 13) (hN : z.N a = N) (hi : i = nI j) (hj : j < N) (hb : N < 2147483648) : stB z h a i x = some (h.setI a j (vp_nar .byte x)) := by
  subst hi
  subst hN
  unfold stB
  rw [if_pos hK, if_pos (ix_ok hj hb), nI_clamp (by omega)]
theorem stZ_ok {z : Sh} {h : Hp} {a N j : Nat} {i x : Int32} (hK : z.K a = 16) (hN : z.N a = N) (hi : i = nI j) (hj : j < N) (hb : N < 2147483648) : stZ z h a i x = some (h.setI a j (vp_nar .boolean x)) := by
  subst hi
  subst hN
  unfold stZ
  rw [if_pos hK, if_pos (ix_ok hj hb), nI_clamp (by omega)]
theorem stJ_ok {z : Sh} {h : Hp} {a N j : Nat} {i : Int32} {x : Int64} (hK : z.K a = 15) (hN : z.N a = N) (hi : i = nI j) (hj : j < N) (hb : N < 2147483648) : stJ z h a i x = some (h.setJ a j x) := by
  subst hi
  subst hN
  unfold stJ
  rw [if_pos hK, if_pos (ix_ok hj hb), nI_clamp (by omega)]
theorem stR_ok {z : Sh} {h : Hp} {a kd ck N j v : Nat} {i : Int32} (hK : z.K a = kd) (hKv : z.K v = ck) (hN : z.N a = N) (hi : i = nI j) (hj : j < N) (hb : N < 2147483648) : stR z h kd ck a i v = some (h.setR a j (some v)) := by
  subst hi
  subst hN
  unfold stR
  rw [if_pos ⟨hK, hKv⟩, if_pos (ix_ok hj hb), nI_clamp (by omega)]
theorem nwA_ok {z : Sh} {h : Hp} {kd N : Nat} {n : Int32} (hn : n = nI N) (hN : N < 2147483648) (hb : N * kby kd ≤ 536870912) : nwA z h kd n = some (z.sz, h.nw z.sz, z.al kd N N) := by
  subst hn
  unfold nwA
  rw [nI_clamp (by omega), if_pos ⟨nI_pos (by omega), hb⟩]
theorem bz_ok {x : Int32} (h : x = 0 ∨ x = 1) : bz x = some x := if_pos h
/-! heaps -/
theorem setI_I (h : Hp) (a k b : Nat) (v : Int32) : (h.setI a k v).I b = if b = a then upd (h.I a) k v else h.I b := by
  by_cases hb : b = a
  · subst hb
    rw [if_pos rfl, Hp.setI, rowI_I]
  · rw [if_neg hb, Hp.setI, rowI_ne h _ hb]
theorem setI_J (h : Hp) (a k b : Nat) (v : Int32) : (h.setI a k v).J b = h.J b := rfl
theorem setI_R (h : Hp) (a k b : Nat) (v : Int32) : (h.setI a k v).R b = h.R b := rfl
theorem setJ_I (h : Hp) (a k b : Nat) (v : Int64) : (h.setJ a k v).I b = h.I b := rfl
theorem setJ_R (h : Hp) (a k b : Nat) (v : Int64) : (h.setJ a k v).R b = h.R b := rfl
theorem setJ_J (h : Hp) (a k b : Nat) (v : Int64) : (h.setJ a k v).J b = if b = a then vp_updL (h.J a) k v else h.J b := by
  by_cases hb : b = a
  · subst hb
    rw [if_pos rfl, Hp.setJ, rowJ_J]
  · rw [if_neg hb, Hp.setJ, rowJ_ne h _ hb]
theorem setR_I (h : Hp) (a k b : Nat) (v : Option Nat) : (h.setR a k v).I b = h.I b := rfl
theorem setR_J (h : Hp) (a k b : Nat) (v : Option Nat) : (h.setR a k v).J b = h.J b := rfl
theorem setR_R (h : Hp) (a k b : Nat) (v : Option Nat) : (h.setR a k v).R b = if b = a then va_up (h.R a) k v else h.R b := by
  by_cases hb : b = a
  · subst hb
    rw [if_pos rfl, Hp.setR, rowR_R]
  · rw [if_neg hb, Hp.setR, rowR_ne h _ hb]
theorem nw_Ib (h : Hp) (a b : Nat) : (h.nw a).I b = if b = a then (fun _ => 0) else h.I b := by
  by_cases hb : b = a
  · subst hb
    rw [if_pos rfl, nw_I]
  · rw [if_neg hb, nw_In h hb]
theorem nw_Jb (h : Hp) (a b : Nat) : (h.nw a).J b = if b = a then (fun _ => 0) else h.J b := by
  by_cases hb : b = a
  · subst hb
    rw [if_pos rfl, nw_J]
  · rw [if_neg hb, nw_Jn h hb]
theorem nw_Rb (h : Hp) (a b : Nat) : (h.nw a).R b = if b = a then (fun _ => none) else h.R b := by
  by_cases hb : b = a
  · subst hb
    rw [if_pos rfl, nw_R]
  · rw [if_neg hb, nw_Rn h hb]
theorem al_Kb (z : Sh) (kd len sl a : Nat) : (z.al kd len sl).K a = if a = z.sz then kd else z.K a := rfl
theorem al_Nb (z : Sh) (kd len sl a : Nat) : (z.al kd len sl).N a = if a = z.sz then len else z.N a := rfl
theorem al_sz (z : Sh) (kd len sl : Nat) : (z.al kd len sl).sz = z.sz + 1 := rfl
theorem al_sl (z : Sh) (kd len sl : Nat) : (z.al kd len sl).sl = z.sl + sl := rfl
theorem al_st (z : Sh) (kd len sl k : Nat) : (z.al kd len sl).st k = z.st k := rfl
/-! comparisons of ints by their values -/
theorem le_iff (a b : Int32) : a ≤ b ↔ a.toInt ≤ b.toInt := Int32.le_iff_toInt_le
theorem lt_iff (a b : Int32) : a < b ↔ a.toInt < b.toInt := Int32.lt_iff_toInt_lt
theorem nI_lit (n : Nat) : (OfNat.ofNat n : Int32) = nI n := rfl
/-! guards -/
theorem gd2_ok {z1 z2 : Sh} {h2 : Hp} {x : Option (Hp × Sh)} (hx : x = some (h2, z2)) (hc : z1.sz ≤ z2.sz ∧ z1.sl ≤ z2.sl) : gd2 z1 x = some (h2, z2) := by
  subst hx
  exact if_pos hc
theorem gd3_ok {α : Type} {z1 z2 : Sh} {h2 : Hp} {r : α} {x : Option (α × Hp × Sh)} (hx : x = some (r, h2, z2)) (hc : z1.sz ≤ z2.sz ∧ z1.sl ≤ z2.sl) : gd3 z1 x = some (r, h2, z2) := by
  subst hx
  exact if_pos hc
/-- it comes to an end, and what it says has P -/
def ev {α : Type} (x : Option α) (P : α → Prop) : Prop := ∃ v, x = some v ∧ P v
theorem ev_some {α : Type} {v : α} {P : α → Prop} (h : P v) : ev (some v) P := ⟨v, rfl, h⟩
theorem ev_bind {α β : Type} {x : Option α} {f : α → Option β} {P : β → Prop} (h : ev x (fun v => ev (f v) P)) : ev (x.bind f) P := by
  obtain ⟨v, rfl, h⟩ := h
  exact h
theorem ev_go {α β : Type} {x : Option α} {v : α} {f : α → Option β} {P : β → Prop} (hx : x = some v) (h : ev (f v) P) : ev (x.bind f) P := by
  subst hx
  exact h
theorem ev_gd2 {z1 : Sh} {x : Option (Hp × Sh)} {P : Hp × Sh → Prop} (h : ev x (fun q => (z1.sz ≤ q.2.sz ∧ z1.sl ≤ q.2.sl) ∧ P q)) : ev (gd2 z1 x) P := by
  obtain ⟨⟨h2, z2⟩, rfl, hc, hp⟩ := h
  exact ⟨(h2, z2), if_pos hc, hp⟩
theorem ev_gd3 {α : Type} {z1 : Sh} {x : Option (α × Hp × Sh)} {P : α × Hp × Sh → Prop} (h : ev x (fun q => (z1.sz ≤ q.2.2.sz ∧ z1.sl ≤ q.2.2.sl) ∧ P q)) : ev (gd3 z1 x) P := by
  obtain ⟨⟨r, h2, z2⟩, rfl, hc, hp⟩ := h
  exact ⟨(r, h2, z2), if_pos hc, hp⟩
theorem ev_mono {α : Type} {x : Option α} {P Q : α → Prop} (h : ev x P) (hpq : ∀ v, P v → Q v) : ev x Q := by
  obtain ⟨v, hv, hp⟩ := h
  exact ⟨v, hv, hpq v hp⟩
theorem ev_pos {α : Type} {c : Prop} [Decidable c] {x y : Option α} {P : α → Prop} (hc : c) (h : ev x P) : ev (if c then x else y) P := by
  rw [if_pos hc]
  exact h
theorem ev_neg {α : Type} {c : Prop} [Decidable c] {x y : Option α} {P : α → Prop} (hc : ¬ c) (h : ev y P) : ev (if c then x else y) P := by
  rw [if_neg hc]
  exact h
