/-! ===== building a block of cells: base b, t cells so far ===== -/
def BI (z0 : Sh) (h0 : Hp) (b t S : Nat) (kf nl : Nat → Nat) (rI : Nat → Nat → Int32) (rR : Nat → Nat → Option Nat) (z : Sh) (h : Hp) : Prop :=
  z.sz = b + t ∧ z.sl = z0.sl + S ∧ (∀ i, i < t → z.K (b + i) = kf i ∧ z.N (b + i) = nl i ∧ h.I (b + i) = rI i ∧ h.J (b + i) = (fun _ => 0) ∧ h.R (b + i) = rR i) ∧ (∀ a, a < b → z.K a = z0.K a ∧ z.N a = z0.N a ∧ h.I a = h0.I a ∧ h.J a = h0.J a ∧ h.R a = h0.R a) ∧ ∀ k, z.st k = z0.st k
section
variable {z0 : Sh} {h0 : Hp} {b t S : Nat} {kf nl : Nat → Nat} {rI : Nat → Nat → Int32} {rR : Nat → Nat → Option Nat} {z : Sh} {h : Hp}
theorem BI.K (H : BI z0 h0 b t S kf nl rI rR z h) {i : Nat} (hi : i < t) : z.K (b + i) = kf i := (H.2.2.1 i hi).1
theorem BI.N (H : BI z0 h0 b t S kf nl rI rR z h) {i : Nat} (hi : i < t) : z.N (b + i) = nl i := (H.2.2.1 i hi).2.1
theorem BI.R (H : BI z0 h0 b t S kf nl rI rR z h) {i : Nat} (hi : i < t) : h.R (b + i) = rR i := (H.2.2.1 i hi).2.2.2.2
theorem BI.start (hs : z.sz = b) : BI z h b 0 0 kf nl rI rR z h := ⟨hs, rfl, fun i hi => absurd hi (Nat.not_lt_zero i), fun _ _ => ⟨rfl, rfl, rfl, rfl, rfl⟩, fun _ => rfl⟩
theorem BI.nw (H : BI z0 h0 b t S kf nl rI rR z h) (kd len sl : Nat) : BI z0 h0 b (t + 1) (S + sl) (va_up kf t kd) (va_up nl t len) (va_up rI t (fun _ => 0)) (va_up rR t (fun _ => none)) (z.al kd len sl) (h.nw z.sz) := by
  obtain ⟨h1, h2, h3, h4, h5⟩ := H
  refine ⟨by rw [al_sz, h1]; omega, by rw [al_sl, h2]; omega, fun i hi => ?_, fun a ha => ?_, h5⟩
  · by_cases e : i = t
    · subst e
      have e1 : b + i = z.sz := h1.symm
      rw [e1, al_K, al_N, nw_I, nw_J, nw_R, va_up_self, va_up_self, va_up_self, va_up_self]
      exact ⟨rfl, rfl, rfl, rfl, rfl⟩
    · have e1 : b + i ≠ z.sz := by omega
      rw [al_Kn _ _ _ _ e1, al_Nn _ _ _ _ e1, nw_In _ e1, nw_Jn _ e1, nw_Rn _ e1, va_up_ne _ _ e, va_up_ne _ _ e, va_up_ne _ _ e, va_up_ne _ _ e]
      exact h3 i (by omega)
  · have e1 : a ≠ z.sz := by omega
    rw [al_Kn _ _ _ _ e1, al_Nn _ _ _ _ e1, nw_In _ e1, nw_Jn _ e1, nw_Rn _ e1]
    exact h4 a ha
theorem BI.pR (H : BI z0 h0 b t S kf nl rI rR z h) {i : Nat} (hi : i < t) (k : Nat) (v : Option Nat) : BI z0 h0 b t S kf nl rI (va_up rR i (va_up (rR i) k v)) z (h.setR (b + i) k v) := by
  obtain ⟨h1, h2, h3, h4, h5⟩ := H
  refine ⟨h1, h2, fun j hj => ?_, fun a ha => ?_, h5⟩
  · rw [setR_I, setR_J, setR_R]
    obtain ⟨g1, g2, g3, g4, g5⟩ := h3 j hj
    by_cases e : j = i
    · subst e
      rw [if_pos rfl, va_up_self, g5]
      exact ⟨g1, g2, g3, g4, rfl⟩
    · rw [if_neg (by omega), va_up_ne _ _ e]
      exact ⟨g1, g2, g3, g4, g5⟩
  · rw [setR_I, setR_J, setR_R, if_neg (by omega)]
    exact h4 a ha
theorem BI.pI (H : BI z0 h0 b t S kf nl rI rR z h) {i : Nat} (hi : i < t) (k : Nat) (v : Int32) : BI z0 h0 b t S kf nl (va_up rI i (upd (rI i) k v)) rR z (h.setI (b + i) k v) := by
  obtain ⟨h1, h2, h3, h4, h5⟩ := H
  refine ⟨h1, h2, fun j hj => ?_, fun a ha => ?_, h5⟩
  · rw [setI_I, setI_J, setI_R]
    obtain ⟨g1, g2, g3, g4, g5⟩ := h3 j hj
    by_cases e : j = i
    · subst e
      rw [if_pos rfl, va_up_self, g3]
      exact ⟨g1, g2, rfl, g4, g5⟩
    · rw [if_neg (by omega), va_up_ne _ _ e]
      exact ⟨g1, g2, g3, g4, g5⟩
  · rw [setI_I, setI_J, setI_R, if_neg (by omega)]
    exact h4 a ha
/-- the last cell's address -/
theorem BI.at (H : BI z0 h0 b t S kf nl rI rR z h) : z.sz = b + t := H.1
end
theorem ev_gdB {z1 : Sh} {x : Option (Hp × Sh)} {P : Hp × Sh → Prop} {lo ls : Nat} (hP : ∀ q, P q → lo ≤ q.2.sz ∧ ls ≤ q.2.sl) (h1 : z1.sz ≤ lo) (h2 : z1.sl ≤ ls) (h : ev x P) : ev (gd2 z1 x) P := by
  obtain ⟨⟨h3, z3⟩, rfl, hp⟩ := h
  have := hP _ hp
  exact ⟨(h3, z3), if_pos ⟨Nat.le_trans h1 this.1, Nat.le_trans h2 this.2⟩, hp⟩
/-- a step of a constructor: an array is made -/
theorem ev_nwA {z0 : Sh} {h0 : Hp} {b t S : Nat} {kf nl : Nat → Nat} {rI : Nat → Nat → Int32} {rR : Nat → Nat → Option Nat} {z : Sh} {h : Hp} {kd N : Nat} {n : Int32} {F : Nat → Hp → Sh → Option (Hp × Sh)} {P : Hp × Sh → Prop} {lo ls : Nat} (H : BI z0 h0 b t S kf nl rI rR z h) (hn : n = nI N) (hN : N < 2147483648) (hb : N * kby kd ≤ 536870912) (hP : ∀ q, P q → lo ≤ q.2.sz ∧ ls ≤ q.2.sl) (h1 : b + t + 1 ≤ lo) (h2 : z0.sl + (S + N) ≤ ls)
    (k : ∀ z' h', BI z0 h0 b (t + 1) (S + N) (va_up kf t kd) (va_up nl t N) (va_up rI t (fun _ => 0)) (va_up rR t (fun _ => none)) z' h' → ev (F (b + t) h' z') P) : ev ((nwA z h kd n).bind fun (a, h2, z3) => gd2 z3 <| F a h2 z3) P := by
  refine ev_go (nwA_ok hn hN hb) ?_
  have H2 := H.nw kd N N
  refine ev_gdB hP (by rw [H2.1]; omega) (by rw [H2.2.1]; exact h2) ?_
  have e : z.sz = b + t := H.1
  rw [e] at H2 ⊢
  exact k _ _ H2
theorem ev_nwO {z0 : Sh} {h0 : Hp} {b t S : Nat} {kf nl : Nat → Nat} {rI : Nat → Nat → Int32} {rR : Nat → Nat → Option Nat} {z : Sh} {h : Hp} {ci : Nat} {F : Nat → Hp → Sh → Option (Hp × Sh)} {P : Hp × Sh → Prop} {lo ls : Nat} (H : BI z0 h0 b t S kf nl rI rR z h) (hP : ∀ q, P q → lo ≤ q.2.sz ∧ ls ≤ q.2.sl) (h1 : b + t + 1 ≤ lo) (h2 : z0.sl + (S + nf ci) ≤ ls)
    (k : ∀ z' h', BI z0 h0 b (t + 1) (S + nf ci) (va_up kf t ci) (va_up nl t 0) (va_up rI t (fun _ => 0)) (va_up rR t (fun _ => none)) z' h' → ev (F (b + t) h' z') P) : ev ((nwO z h ci).bind fun (a, h2, z3) => gd2 z3 <| F a h2 z3) P := by
  refine ev_go (v := (z.sz, h.nw z.sz, z.al ci 0 (nf ci))) rfl ?_
  have H2 := H.nw ci 0 (nf ci)
  refine ev_gdB hP (by rw [H2.1]; omega) (by rw [H2.2.1]; exact h2) ?_
  have e : z.sz = b + t := H.1
  rw [e] at H2 ⊢
  exact k _ _ H2
/-- a step: a reference, an int is put into a cell of the block -/
theorem ev_pR {z0 : Sh} {h0 : Hp} {b t S : Nat} {kf nl : Nat → Nat} {rI : Nat → Nat → Int32} {rR : Nat → Nat → Option Nat} {z : Sh} {h : Hp} {ci i kk : Nat} {v : Option Nat} {F : Hp → Option (Hp × Sh)} {P : Hp × Sh → Prop} (H : BI z0 h0 b t S kf nl rI rR z h) (hi : i < t) (hk : kf i = ci)
    (k : ∀ h', BI z0 h0 b t S kf nl rI (va_up rR i (va_up (rR i) kk v)) z h' → ev (F h') P) : ev ((pR z h ci (b + i) kk v).bind F) P := ev_go (pR_ok ((H.K hi).trans hk)) (k _ (H.pR hi kk v))
theorem ev_pI {z0 : Sh} {h0 : Hp} {b t S : Nat} {kf nl : Nat → Nat} {rI : Nat → Nat → Int32} {rR : Nat → Nat → Option Nat} {z : Sh} {h : Hp} {ci i kk : Nat} {v : Int32} {F : Hp → Option (Hp × Sh)} {P : Hp × Sh → Prop} (H : BI z0 h0 b t S kf nl rI rR z h) (hi : i < t) (hk : kf i = ci)
    (k : ∀ h', BI z0 h0 b t S kf nl (va_up rI i (upd (rI i) kk v)) rR z h' → ev (F h') P) : ev ((pI z h ci (b + i) kk v).bind F) P := ev_go (pI_ok ((H.K hi).trans hk)) (k _ (H.pI hi kk v))
theorem ev_pZ {z0 : Sh} {h0 : Hp} {b t S : Nat} {kf nl : Nat → Nat} {rI : Nat → Nat → Int32} {rR : Nat → Nat → Option Nat} {z : Sh} {h : Hp} {ci i kk : Nat} {v : Int32} {F : Hp → Option (Hp × Sh)} {P : Hp × Sh → Prop} (H : BI z0 h0 b t S kf nl rI rR z h) (hi : i < t) (hk : kf i = ci) (hv : v = 0 ∨ v = 1)
    (k : ∀ h', BI z0 h0 b t S kf nl (va_up rI i (upd (rI i) kk v)) rR z h' → ev (F h') P) : ev ((pZ z h ci (b + i) kk v).bind F) P := ev_go (pZ_ok ((H.K hi).trans hk) hv) (k _ (H.pI hi kk v))
theorem ev_gR {z0 : Sh} {h0 : Hp} {b t S : Nat} {kf nl : Nat → Nat} {rI : Nat → Nat → Int32} {rR : Nat → Nat → Option Nat} {z : Sh} {h : Hp} {ci i kk v : Nat} {F : Nat → Option (Hp × Sh)} {P : Hp × Sh → Prop} (H : BI z0 h0 b t S kf nl rI rR z h) (hi : i < t) (hk : kf i = ci) (hv : rR i kk = some v) (k : ev (F v) P) : ev ((gR z h ci (b + i) kk).bind F) P := ev_go (gR_ok ((H.K hi).trans hk) (by rw [H.R hi]; exact hv)) k
theorem ev_stIB {z0 : Sh} {h0 : Hp} {b t S : Nat} {kf nl : Nat → Nat} {rI : Nat → Nat → Int32} {rR : Nat → Nat → Option Nat} {z : Sh} {h : Hp} {i j : Nat} {jj v : Int32} {F : Hp → Option (Hp × Sh)} {P : Hp × Sh → Prop} (H : BI z0 h0 b t S kf nl rI rR z h) (hi : i < t) (hk : kf i = 14) (hj : jj = nI j) (hl : j < nl i) (hb : nl i < 2147483648)
    (k : ∀ h', BI z0 h0 b t S kf nl (va_up rI i (upd (rI i) j v)) rR z h' → ev (F h') P) : ev ((stI z h (b + i) jj v).bind F) P := ev_go (stI_ok ((H.K hi).trans hk) (H.N hi) hj hl hb) (k _ (H.pI hi j v))
/-! ===== the reference's rows ===== -/
def oM (k : Nat) : Nat := match k with | 1 => 1 | 2 => 2 | 3 => 3 | 4 => 4 | 16 => 5 | 17 => 6 | 18 => 7 | 21 => 8 | 22 => 9 | 23 => 10 | 24 => 11 | 27 => 12 | 28 => 13 | 29 => 14 | 30 => 15 | 31 => 16 | 33 => 17 | 34 => 18 | 35 => 19 | _ => 0
def kM (o : Nat) : Nat := match o with | 0 => 12 | 2 => 16 | 10 => 15 | 11 => 16 | 14 => 15 | 15 => 15 | 19 => 15 | _ => 14
def nM (o : Nat) : Nat := match o with | 1 => 4374 | 2 => 2 | 3 => 900 | 4 => 1458 | 5 => 900 | 6 => 7 | 7 => 49 | 8 => 3430 | 9 => 3430 | 10 => 3430 | 11 => 3430 | 12 => 3430 | 13 => 3430 | 14 => 3430 | 15 => 373870 | 16 => 19 | 17 => 4 | 18 => 4 | 19 => 160 | _ => 0
def LayM (z : Sh) (h : Hp) (m : Nat) : Prop := (∀ o, o < 20 → z.K (m + o) = kM o) ∧ (∀ o, 1 ≤ o → o < 20 → z.N (m + o) = nM o) ∧ ∀ k, k < 36 → rb 12 k = true → h.R m k = some (m + oM k)
