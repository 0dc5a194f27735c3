/-! ===== stores, arrays ===== -/
section
variable {p : Program} {l : Launch} {e : Env} {R : Room} {s : State} {m : MethodId} {args : Array Value} {below : List Frame} {meth : Method} {c : Code} {H : Heap} {locs : List Loc} {cells slots : Nat} {Q : State → Prop} {pc : Nat} {ls : Array Slot} {rest : List Value} {s0 : State} {E : Ev} {z : Sh} {h : Hp} {cc : ByteArray} {nL : Nat} {own : String}
theorem Bd.keep (B : Bd p s0 s E m c cc nL own) : ∀ a : Nat, a < s0.heap.size → ¬ Ax s0 a → s.heap[a]? = s0.heap[a]? := fun a h _ => B.2.2.2.2.2.2.1 a h
theorem Bd.T (B : Bd p s0 s E m c cc nL own) {ty : FieldType} {t N : Nat} {f : Nat → Value} (h : va_T ty t N f (Ax s0) s0 s0.heap) : va_T ty t N f (Ax s0) s s.heap := (h.moved B.2.2.2.2.1.alike).kept B.keep
theorem fits_rf {n : String} (v : Option Nat) : fits (.object n) (va_rf v) = true := by cases v <;> rfl
theorem fits_rfA {t : FieldType} (v : Option Nat) : fits (.array t) (va_rf v) = true := by cases v <;> rfl
theorem nar_rf {n : String} (v : Option Nat) : narrow (.object n) (va_rf v) = va_rf v := by cases v <;> rfl
theorem nar_rfA {t : FieldType} (v : Option Nat) : narrow (.array t) (va_rf v) = va_rf v := by cases v <;> rfl
theorem nar_z {v : Int32} (h : v = 0 ∨ v = 1) : narrow .boolean (.int v) = .int v := by rcases h with rfl | rfl <;> decide +kernel
theorem fit_z {v : Int32} (h : v = 0 ∨ v = 1) : fits .boolean (.int v) = true := by rcases h with rfl | rfl <;> decide +kernel
theorem q_putI {a ci k N index : Nat} {C ref : String} {T : u_T} {v : Int32} {h2 : Hp} (hv : pI z h ci a k v = some h2) (B : Bd p s0 s E m c cc nL own) (hw : Pw s0 s E z h H locs) (hc : vwCl[ci]? = some (C, T, N)) (hci : ci < 13) (hk : k < N) (hkn : k < nf ci) (hr : rb ci k = false) (hs : (T k).1 = ref) (hfin : (T k).2.2.2 = false) (hd0 : parseFieldDescriptor (T k).2.2.1 = some .int) (ty0 : Nat → FieldType) (hty : ∀ k, k < N → parseFieldDescriptor (T k).2.2.1 = some (ty0 k)) (hnm : ∀ a, a < N → ∀ b, b < N → a ≠ b → (T a).2.1 ≠ (T b).2.1) (hl : (Cond.fieldLink own index ref (T k).2.1 (T k).2.2.1) ∈ lw_tbl) (hd : decode cc pc = .ok (.putfield index, 3))
    (kk : ∀ (H1 : Heap) (locs1 : List Loc), Pw s0 s E z h2 H1 locs1 → W p l e R s m args below meth c H1 locs1 cells slots Q (F0 m (pc + 3) ls rest)) : W p l e R s m args below meth c H locs cells slots Q (F0 m pc ls (.int v :: .ref a :: rest)) := by
  obtain ⟨hK, hv⟩ := if_some hv
  cases hv
  obtain ⟨q0, hq0⟩ := hw.ix (a := a) (by omega)
  have hq := hq0
  rw [cf_o hK hci] at hq
  exact va_put B.1 B.2.1 (B.u hc) (fun _ q => q) ty0 hty hnm B.2.2.2.1 B.K hw.1 (pL_D s0 z _) hw.2.1 q0 hq hc k hk (B.w hl rfl) (fun _ q => by rw [hs] at q; exact q) hfin hd0 rfl rfl (by rw [obl_len]; exact hkn) hd (fun H1 locs1 hP _ hS => kk H1 locs1 (hw.wr (by omega) hq0 (h' := h.setI a k v) (by rw [cf_o hK hci, ← obl_I h ci a k v hr]) (fun b hb => (rowI_ne h _ hb)) (fun b hb => rfl) (fun b hb => rfl) hP hS))
theorem q_putZ {a ci k N index : Nat} {C ref : String} {T : u_T} {v : Int32} {h2 : Hp} (hv : pZ z h ci a k v = some h2) (B : Bd p s0 s E m c cc nL own) (hw : Pw s0 s E z h H locs) (hc : vwCl[ci]? = some (C, T, N)) (hci : ci < 13) (hk : k < N) (hkn : k < nf ci) (hr : rb ci k = false) (hs : (T k).1 = ref) (hfin : (T k).2.2.2 = false) (hd0 : parseFieldDescriptor (T k).2.2.1 = some .boolean) (ty0 : Nat → FieldType) (hty : ∀ k, k < N → parseFieldDescriptor (T k).2.2.1 = some (ty0 k)) (hnm : ∀ a, a < N → ∀ b, b < N → a ≠ b → (T a).2.1 ≠ (T b).2.1) (hl : (Cond.fieldLink own index ref (T k).2.1 (T k).2.2.1) ∈ lw_tbl) (hd : decode cc pc = .ok (.putfield index, 3))
    (kk : ∀ (H1 : Heap) (locs1 : List Loc), Pw s0 s E z h2 H1 locs1 → W p l e R s m args below meth c H1 locs1 cells slots Q (F0 m (pc + 3) ls rest)) : W p l e R s m args below meth c H locs cells slots Q (F0 m pc ls (.int v :: .ref a :: rest)) := by
  obtain ⟨hK, hv⟩ := if_some hv
  obtain ⟨hz, hv⟩ := if_some hv
  cases hv
  obtain ⟨q0, hq0⟩ := hw.ix (a := a) (by omega)
  have hq := hq0
  rw [cf_o hK hci] at hq
  exact va_put B.1 B.2.1 (B.u hc) (fun _ q => q) ty0 hty hnm B.2.2.2.1 B.K hw.1 (pL_D s0 z _) hw.2.1 q0 hq hc k hk (B.w hl rfl) (fun _ q => by rw [hs] at q; exact q) hfin hd0 (nar_z hz) (fit_z hz) (by rw [obl_len]; exact hkn) hd (fun H1 locs1 hP _ hS => kk H1 locs1 (hw.wr (by omega) hq0 (h' := h.setI a k v) (by rw [cf_o hK hci, ← obl_I h ci a k v hr]) (fun b hb => (rowI_ne h _ hb)) (fun b hb => rfl) (fun b hb => rfl) hP hS))
theorem q_putO {a ci k N index : Nat} {C ref : String} {T : u_T} {v : Option Nat} {h2 : Hp} (hv : pR z h ci a k v = some h2) (B : Bd p s0 s E m c cc nL own) (hw : Pw s0 s E z h H locs) (hc : vwCl[ci]? = some (C, T, N)) (hci : ci < 13) (hk : k < N) (hkn : k < nf ci) (hr : rb ci k = true) (hs : (T k).1 = ref) (hfin : (T k).2.2.2 = false) {ty : FieldType} (hd0 : parseFieldDescriptor (T k).2.2.1 = some ty) (ht : (∃ n, ty = .object n) ∨ ∃ t, ty = .array t) (ty0 : Nat → FieldType) (hty : ∀ k, k < N → parseFieldDescriptor (T k).2.2.1 = some (ty0 k)) (hnm : ∀ a, a < N → ∀ b, b < N → a ≠ b → (T a).2.1 ≠ (T b).2.1) (hl : (Cond.fieldLink own index ref (T k).2.1 (T k).2.2.1) ∈ lw_tbl) (hd : decode cc pc = .ok (.putfield index, 3))
    (kk : ∀ (H1 : Heap) (locs1 : List Loc), Pw s0 s E z h2 H1 locs1 → W p l e R s m args below meth c H1 locs1 cells slots Q (F0 m (pc + 3) ls rest)) : W p l e R s m args below meth c H locs cells slots Q (F0 m pc ls (va_rf v :: .ref a :: rest)) := by
  obtain ⟨hK, hv⟩ := if_some hv
  cases hv
  obtain ⟨q0, hq0⟩ := hw.ix (a := a) (by omega)
  have hq := hq0
  rw [cf_o hK hci] at hq
  exact va_put B.1 B.2.1 (B.u hc) (fun _ q => q) ty0 hty hnm B.2.2.2.1 B.K hw.1 (pL_D s0 z _) hw.2.1 q0 hq hc k hk (B.w hl rfl) (fun _ q => by rw [hs] at q; exact q) hfin hd0 (by rcases ht with ⟨n, rfl⟩ | ⟨t, rfl⟩; exact nar_rf v; exact nar_rfA v) (by rcases ht with ⟨n, rfl⟩ | ⟨t, rfl⟩; exact fits_rf v; exact fits_rfA v) (by rw [obl_len]; exact hkn) hd (fun H1 locs1 hP _ hS => kk H1 locs1 (hw.wr (by omega) hq0 (h' := h.setR a k v) (by rw [cf_o hK hci, ← obl_R h ci a k v hr]) (fun b hb => rfl) (fun b hb => rfl) (fun b hb => (rowR_ne h _ hb)) hP hS))
theorem q_putR {a ci k N index : Nat} {C ref : String} {T : u_T} {v : Nat} {h2 : Hp} (hv : pR z h ci a k (some v) = some h2) (B : Bd p s0 s E m c cc nL own) (hw : Pw s0 s E z h H locs) (hc : vwCl[ci]? = some (C, T, N)) (hci : ci < 13) (hk : k < N) (hkn : k < nf ci) (hr : rb ci k = true) (hs : (T k).1 = ref) (hfin : (T k).2.2.2 = false) {ty : FieldType} (hd0 : parseFieldDescriptor (T k).2.2.1 = some ty) (ht : (∃ n, ty = .object n) ∨ ∃ t, ty = .array t) (ty0 : Nat → FieldType) (hty : ∀ k, k < N → parseFieldDescriptor (T k).2.2.1 = some (ty0 k)) (hnm : ∀ a, a < N → ∀ b, b < N → a ≠ b → (T a).2.1 ≠ (T b).2.1) (hl : (Cond.fieldLink own index ref (T k).2.1 (T k).2.2.1) ∈ lw_tbl) (hd : decode cc pc = .ok (.putfield index, 3))
    (kk : ∀ (H1 : Heap) (locs1 : List Loc), Pw s0 s E z h2 H1 locs1 → W p l e R s m args below meth c H1 locs1 cells slots Q (F0 m (pc + 3) ls rest)) : W p l e R s m args below meth c H locs cells slots Q (F0 m pc ls (.ref v :: .ref a :: rest)) := q_putO (v := some v) hv B hw hc hci hk hkn hr hs hfin hd0 ht ty0 hty hnm hl hd kk
theorem q_putIN {a ci k N index : Nat} {C ref host : String} {T : u_T} {v : Int32} {h2 : Hp} (hv : pI z h ci a k v = some h2) (B : Bd p s0 s E m c cc nL own) (hw : Pw s0 s E z h H locs) (hc : vwCl[ci]? = some (C, T, N)) (hci : ci < 13) (hk : k < N) (hkn : k < nf ci) (hr : rb ci k = false) (hs : (T k).1 = ref) (hfin : (T k).2.2.2 = false) (hd0 : parseFieldDescriptor (T k).2.2.1 = some .int) (ty0 : Nat → FieldType) (hty : ∀ k, k < N → parseFieldDescriptor (T k).2.2.1 = some (ty0 k)) (hnm : ∀ a, a < N → ∀ b, b < N → a ≠ b → (T a).2.1 ≠ (T b).2.1) (hl : (Cond.fieldLinkNest own index ref (T k).2.1 (T k).2.2.1 host) ∈ lw_tbl) (hd : decode cc pc = .ok (.putfield index, 3))
    (kk : ∀ (H1 : Heap) (locs1 : List Loc), Pw s0 s E z h2 H1 locs1 → W p l e R s m args below meth c H1 locs1 cells slots Q (F0 m (pc + 3) ls rest)) : W p l e R s m args below meth c H locs cells slots Q (F0 m pc ls (.int v :: .ref a :: rest)) := by
  obtain ⟨hK, hv⟩ := if_some hv
  cases hv
  obtain ⟨q0, hq0⟩ := hw.ix (a := a) (by omega)
  have hq := hq0
  rw [cf_o hK hci] at hq
  exact va_putN B.1 B.2.1 (B.u hc) (fun _ q => q) ty0 hty hnm B.2.2.2.1 B.K hw.1 (pL_D s0 z _) hw.2.1 q0 hq hc k hk (B.nF hl) (fun _ q => by rw [hs] at q; exact q) hfin hd0 rfl rfl (by rw [obl_len]; exact hkn) hd (fun H1 locs1 hP _ hS => kk H1 locs1 (hw.wr (by omega) hq0 (h' := h.setI a k v) (by rw [cf_o hK hci, ← obl_I h ci a k v hr]) (fun b hb => (rowI_ne h _ hb)) (fun b hb => rfl) (fun b hb => rfl) hP hS))
theorem q_putZN {a ci k N index : Nat} {C ref host : String} {T : u_T} {v : Int32} {h2 : Hp} (hv : pZ z h ci a k v = some h2) (B : Bd p s0 s E m c cc nL own) (hw : Pw s0 s E z h H locs) (hc : vwCl[ci]? = some (C, T, N)) (hci : ci < 13) (hk : k < N) (hkn : k < nf ci) (hr : rb ci k = false) (hs : (T k).1 = ref) (hfin : (T k).2.2.2 = false) (hd0 : parseFieldDescriptor (T k).2.2.1 = some .boolean) (ty0 : Nat → FieldType) (hty : ∀ k, k < N → parseFieldDescriptor (T k).2.2.1 = some (ty0 k)) (hnm : ∀ a, a < N → ∀ b, b < N → a ≠ b → (T a).2.1 ≠ (T b).2.1) (hl : (Cond.fieldLinkNest own index ref (T k).2.1 (T k).2.2.1 host) ∈ lw_tbl) (hd : decode cc pc = .ok (.putfield index, 3))
    (kk : ∀ (H1 : Heap) (locs1 : List Loc), Pw s0 s E z h2 H1 locs1 → W p l e R s m args below meth c H1 locs1 cells slots Q (F0 m (pc + 3) ls rest)) : W p l e R s m args below meth c H locs cells slots Q (F0 m pc ls (.int v :: .ref a :: rest)) := by
  obtain ⟨hK, hv⟩ := if_some hv
  obtain ⟨hz, hv⟩ := if_some hv
  cases hv
  obtain ⟨q0, hq0⟩ := hw.ix (a := a) (by omega)
  have hq := hq0
  rw [cf_o hK hci] at hq
  exact va_putN B.1 B.2.1 (B.u hc) (fun _ q => q) ty0 hty hnm B.2.2.2.1 B.K hw.1 (pL_D s0 z _) hw.2.1 q0 hq hc k hk (B.nF hl) (fun _ q => by rw [hs] at q; exact q) hfin hd0 (nar_z hz) (fit_z hz) (by rw [obl_len]; exact hkn) hd (fun H1 locs1 hP _ hS => kk H1 locs1 (hw.wr (by omega) hq0 (h' := h.setI a k v) (by rw [cf_o hK hci, ← obl_I h ci a k v hr]) (fun b hb => (rowI_ne h _ hb)) (fun b hb => rfl) (fun b hb => rfl) hP hS))
theorem q_putON {a ci k N index : Nat} {C ref host : String} {T : u_T} {v : Option Nat} {h2 : Hp} (hv : pR z h ci a k v = some h2) (B : Bd p s0 s E m c cc nL own) (hw : Pw s0 s E z h H locs) (hc : vwCl[ci]? = some (C, T, N)) (hci : ci < 13) (hk : k < N) (hkn : k < nf ci) (hr : rb ci k = true) (hs : (T k).1 = ref) (hfin : (T k).2.2.2 = false) {ty : FieldType} (hd0 : parseFieldDescriptor (T k).2.2.1 = some ty) (ht : (∃ n, ty = .object n) ∨ ∃ t, ty = .array t) (ty0 : Nat → FieldType) (hty : ∀ k, k < N → parseFieldDescriptor (T k).2.2.1 = some (ty0 k)) (hnm : ∀ a, a < N → ∀ b, b < N → a ≠ b → (T a).2.1 ≠ (T b).2.1) (hl : (Cond.fieldLinkNest own index ref (T k).2.1 (T k).2.2.1 host) ∈ lw_tbl) (hd : decode cc pc = .ok (.putfield index, 3))
    (kk : ∀ (H1 : Heap) (locs1 : List Loc), Pw s0 s E z h2 H1 locs1 → W p l e R s m args below meth c H1 locs1 cells slots Q (F0 m (pc + 3) ls rest)) : W p l e R s m args below meth c H locs cells slots Q (F0 m pc ls (va_rf v :: .ref a :: rest)) := by
  obtain ⟨hK, hv⟩ := if_some hv
  cases hv
  obtain ⟨q0, hq0⟩ := hw.ix (a := a) (by omega)
  have hq := hq0
  rw [cf_o hK hci] at hq
  exact va_putN B.1 B.2.1 (B.u hc) (fun _ q => q) ty0 hty hnm B.2.2.2.1 B.K hw.1 (pL_D s0 z _) hw.2.1 q0 hq hc k hk (B.nF hl) (fun _ q => by rw [hs] at q; exact q) hfin hd0 (by rcases ht with ⟨n, rfl⟩ | ⟨t, rfl⟩; exact nar_rf v; exact nar_rfA v) (by rcases ht with ⟨n, rfl⟩ | ⟨t, rfl⟩; exact fits_rf v; exact fits_rfA v) (by rw [obl_len]; exact hkn) hd (fun H1 locs1 hP _ hS => kk H1 locs1 (hw.wr (by omega) hq0 (h' := h.setR a k v) (by rw [cf_o hK hci, ← obl_R h ci a k v hr]) (fun b hb => rfl) (fun b hb => rfl) (fun b hb => (rowR_ne h _ hb)) hP hS))
theorem q_putRN {a ci k N index : Nat} {C ref host : String} {T : u_T} {v : Nat} {h2 : Hp} (hv : pR z h ci a k (some v) = some h2) (B : Bd p s0 s E m c cc nL own) (hw : Pw s0 s E z h H locs) (hc : vwCl[ci]? = some (C, T, N)) (hci : ci < 13) (hk : k < N) (hkn : k < nf ci) (hr : rb ci k = true) (hs : (T k).1 = ref) (hfin : (T k).2.2.2 = false) {ty : FieldType} (hd0 : parseFieldDescriptor (T k).2.2.1 = some ty) (ht : (∃ n, ty = .object n) ∨ ∃ t, ty = .array t) (ty0 : Nat → FieldType) (hty : ∀ k, k < N → parseFieldDescriptor (T k).2.2.1 = some (ty0 k)) (hnm : ∀ a, a < N → ∀ b, b < N → a ≠ b → (T a).2.1 ≠ (T b).2.1) (hl : (Cond.fieldLinkNest own index ref (T k).2.1 (T k).2.2.1 host) ∈ lw_tbl) (hd : decode cc pc = .ok (.putfield index, 3))
    (kk : ∀ (H1 : Heap) (locs1 : List Loc), Pw s0 s E z h2 H1 locs1 → W p l e R s m args below meth c H1 locs1 cells slots Q (F0 m (pc + 3) ls rest)) : W p l e R s m args below meth c H locs cells slots Q (F0 m pc ls (.ref v :: .ref a :: rest)) := q_putON (v := some v) hv B hw hc hci hk hkn hr hs hfin hd0 ht ty0 hty hnm hl hd kk
theorem q_ldI {a : Nat} {i : Int32} {v : Int32} (hv : ldI z h a i = some v) (B : Bd p s0 s E m c cc nL own) (hw : Pw s0 s E z h H locs) (hd : decode cc pc = .ok (.iaload, 1))
    (kk : W p l e R s m args below meth c H locs cells slots Q (F0 m (pc + 1) ls (.int v :: rest))) : W p l e R s m args below meth c H locs cells slots Q (F0 m pc ls (.int i :: .ref a :: rest)) := by
  obtain ⟨hK, hv⟩ := if_some hv
  obtain ⟨hin, hv⟩ := if_some hv
  cases hv
  rcases hK with hK | hK
  · have hP := hw.at (a := a) (by omega)
    rw [cf_i hK (by decide) (by decide) (by decide)] at hP
    exact va_iald B.1 B.2.1 B.K hP 0 1 rfl rfl hin hd kk
  · exact va_ti B.1 B.2.1 (B.T (hw.2.2.2.2.2.1 a hK)) hw.2.1 hin rfl hd kk
theorem q_ldJ {a : Nat} {i : Int32} {v : Int64} (hv : ldJ z h a i = some v) (B : Bd p s0 s E m c cc nL own) (hw : Pw s0 s E z h H locs) (hd : decode cc pc = .ok (.laload, 1))
    (kk : W p l e R s m args below meth c H locs cells slots Q (F0 m (pc + 1) ls (.long v :: rest))) : W p l e R s m args below meth c H locs cells slots Q (F0 m pc ls (.int i :: .ref a :: rest)) := by
  obtain ⟨hK, hv⟩ := if_some hv
  obtain ⟨hin, hv⟩ := if_some hv
  cases hv
  rcases hK with hK | hK
  · have hP := hw.at (a := a) (by omega)
    rw [cf_j hK] at hP
    exact va_lald B.1 B.2.1 B.K hP 0 2 rfl rfl hin hd kk
  · exact va_tl B.1 B.2.1 (B.T (hw.2.2.2.2.2.2.1 a hK)) hw.2.1 hin rfl hd kk
theorem q_ldB {a : Nat} {i : Int32} {v : Int32} (hv : ldB z h a i = some v) (B : Bd p s0 s E m c cc nL own) (hw : Pw s0 s E z h H locs) (hd : decode cc pc = .ok (.baload, 1))
    (kk : W p l e R s m args below meth c H locs cells slots Q (F0 m (pc + 1) ls (.int v :: rest))) : W p l e R s m args below meth c H locs cells slots Q (F0 m pc ls (.int i :: .ref a :: rest)) := by
  obtain ⟨hK, hv⟩ := if_some hv
  obtain ⟨hin, hv⟩ := if_some hv
  cases hv
  rcases hK with hK | hK
  · have hP := hw.at (a := a) (by omega)
    rw [cf_i hK (by decide) (by decide) (by decide)] at hP
    exact va_bald B.1 B.2.1 B.K hP 0 0 rfl rfl hin hd kk
  · exact va_tb B.1 B.2.1 (B.T (hw.2.2.2.2.1 a hK)) hw.2.1 hin rfl hd kk
theorem q_ldZ {a : Nat} {i : Int32} {v : Int32} (hv : ldZ z h a i = some v) (B : Bd p s0 s E m c cc nL own) (hw : Pw s0 s E z h H locs) (hd : decode cc pc = .ok (.baload, 1))
    (kk : W p l e R s m args below meth c H locs cells slots Q (F0 m (pc + 1) ls (.int v :: rest))) : W p l e R s m args below meth c H locs cells slots Q (F0 m pc ls (.int i :: .ref a :: rest)) := by
  obtain ⟨hK, hv⟩ := if_some hv
  obtain ⟨hin, hv⟩ := if_some hv
  cases hv
  have hP := hw.at (a := a) (by omega)
  rw [cf_i hK (by decide) (by decide) (by decide)] at hP
  exact va_zald B.1 B.2.1 B.K hP 0 3 rfl rfl hin hd kk
theorem q_ldR {a kd t0 : Nat} {i : Int32} {v : Nat} {C : String} (hv : ldR z h kd a i = some v) (B : Bd p s0 s E m c cc nL own) (hw : Pw s0 s E z h H locs) (hkd : 17 ≤ kd) (hkd2 : kd < 21) (ht : (tysE E)[t0]? = some (E.cy kd, .object C)) (hd : decode cc pc = .ok (.aaload, 1))
    (kk : W p l e R s m args below meth c H locs cells slots Q (F0 m (pc + 1) ls (.ref v :: rest))) : W p l e R s m args below meth c H locs cells slots Q (F0 m pc ls (.int i :: .ref a :: rest)) := by
  obtain ⟨hK, hv⟩ := if_some hv
  obtain ⟨hin, hv⟩ := if_some hv
  have kk : W p l e R s m args below meth c H locs cells slots Q (F0 m (pc + 1) ls (va_rf (h.R a i.toNatClampNeg) :: rest)) := by rw [hv]; exact kk
  have hP := hw.at (a := a) (by omega)
  rw [cf_r hK hkd] at hP
  exact va_aldq B.1 B.2.1 B.K hP 0 t0 rfl ht hin hd kk
theorem q_ldN {a kd t0 : Nat} {i : Int32} {v : Option Nat} {C : String} (hv : ldN z h kd a i = some v) (B : Bd p s0 s E m c cc nL own) (hw : Pw s0 s E z h H locs) (hkd : 17 ≤ kd) (hkd2 : kd < 21) (ht : (tysE E)[t0]? = some (E.cy kd, .object C)) (hd : decode cc pc = .ok (.aaload, 1))
    (kk : W p l e R s m args below meth c H locs cells slots Q (F0 m (pc + 1) ls (va_rf v :: rest))) : W p l e R s m args below meth c H locs cells slots Q (F0 m pc ls (.int i :: .ref a :: rest)) := by
  obtain ⟨hK, hv⟩ := if_some hv
  obtain ⟨hin, hv⟩ := if_some hv
  cases hv
  have hP := hw.at (a := a) (by omega)
  rw [cf_r hK hkd] at hP
  exact va_aldq B.1 B.2.1 B.K hP 0 t0 rfl ht hin hd kk
theorem q_stI {a : Nat} {i : Int32} {x : Int32} {h2 : Hp} (hv : stI z h a i x = some h2) (B : Bd p s0 s E m c cc nL own) (hw : Pw s0 s E z h H locs) (hd : decode cc pc = .ok (.iastore, 1))
    (kk : ∀ (H1 : Heap) (locs1 : List Loc), Pw s0 s E z h2 H1 locs1 → W p l e R s m args below meth c H1 locs1 cells slots Q (F0 m (pc + 1) ls rest)) : W p l e R s m args below meth c H locs cells slots Q (F0 m pc ls (.int x :: .int i :: .ref a :: rest)) := by
  obtain ⟨hK, hv⟩ := if_some hv
  obtain ⟨hin, hv⟩ := if_some hv
  cases hv
  obtain ⟨q0, hq0⟩ := hw.ix (a := a) (by omega)
  have hq := hq0
  rw [cf_i hK (by decide) (by decide) (by decide)] at hq
  exact va_iast B.1 B.2.1 B.K hw.1 (pL_D s0 z _) hw.2.1 q0 1 hq rfl hin hd (fun H1 locs1 hP _ hS => kk H1 locs1 (hw.wr (by omega) hq0 (h' := h.setI a i.toNatClampNeg x) (by rw [cf_i hK (by decide) (by decide) (by decide), Hp.setI, rowI_I]) (fun b hb => (rowI_ne h _ hb)) (fun b hb => rfl) (fun b hb => rfl) hP hS))
theorem q_stB {a : Nat} {i : Int32} {x : Int32} {h2 : Hp} (hv : stB z h a i x = some h2) (B : Bd p s0 s E m c cc nL own) (hw : Pw s0 s E z h H locs) (hd : decode cc pc = .ok (.bastore, 1))
    (kk : ∀ (H1 : Heap) (locs1 : List Loc), Pw s0 s E z h2 H1 locs1 → W p l e R s m args below meth c H1 locs1 cells slots Q (F0 m (pc + 1) ls rest)) : W p l e R s m args below meth c H locs cells slots Q (F0 m pc ls (.int x :: .int i :: .ref a :: rest)) := by
  obtain ⟨hK, hv⟩ := if_some hv
  obtain ⟨hin, hv⟩ := if_some hv
  cases hv
  obtain ⟨q0, hq0⟩ := hw.ix (a := a) (by omega)
  have hq := hq0
  rw [cf_i hK (by decide) (by decide) (by decide)] at hq
  exact va_bast B.1 B.2.1 B.K hw.1 (pL_D s0 z _) hw.2.1 q0 0 hq rfl hin hd (fun H1 locs1 hP _ hS => kk H1 locs1 (hw.wr (by omega) hq0 (h' := h.setI a i.toNatClampNeg (vp_nar .byte x)) (by rw [cf_i hK (by decide) (by decide) (by decide), Hp.setI, rowI_I]) (fun b hb => (rowI_ne h _ hb)) (fun b hb => rfl) (fun b hb => rfl) hP hS))
theorem q_stZ {a : Nat} {i : Int32} {x : Int32} {h2 : Hp} (hv : stZ z h a i x = some h2) (B : Bd p s0 s E m c cc nL own) (hw : Pw s0 s E z h H locs) (hd : decode cc pc = .ok (.bastore, 1))
    (kk : ∀ (H1 : Heap) (locs1 : List Loc), Pw s0 s E z h2 H1 locs1 → W p l e R s m args below meth c H1 locs1 cells slots Q (F0 m (pc + 1) ls rest)) : W p l e R s m args below meth c H locs cells slots Q (F0 m pc ls (.int x :: .int i :: .ref a :: rest)) := by
  obtain ⟨hK, hv⟩ := if_some hv
  obtain ⟨hin, hv⟩ := if_some hv
  cases hv
  obtain ⟨q0, hq0⟩ := hw.ix (a := a) (by omega)
  have hq := hq0
  rw [cf_i hK (by decide) (by decide) (by decide)] at hq
  exact va_zast B.1 B.2.1 B.K hw.1 (pL_D s0 z _) hw.2.1 q0 3 hq rfl hin hd (fun H1 locs1 hP _ hS => kk H1 locs1 (hw.wr (by omega) hq0 (h' := h.setI a i.toNatClampNeg (vp_nar .boolean x)) (by rw [cf_i hK (by decide) (by decide) (by decide), Hp.setI, rowI_I]) (fun b hb => (rowI_ne h _ hb)) (fun b hb => rfl) (fun b hb => rfl) hP hS))
theorem q_stJ {a : Nat} {i : Int32} {x : Int64} {h2 : Hp} (hv : stJ z h a i x = some h2) (B : Bd p s0 s E m c cc nL own) (hw : Pw s0 s E z h H locs) (hd : decode cc pc = .ok (.lastore, 1))
    (kk : ∀ (H1 : Heap) (locs1 : List Loc), Pw s0 s E z h2 H1 locs1 → W p l e R s m args below meth c H1 locs1 cells slots Q (F0 m (pc + 1) ls rest)) : W p l e R s m args below meth c H locs cells slots Q (F0 m pc ls (.long x :: .int i :: .ref a :: rest)) := by
  obtain ⟨hK, hv⟩ := if_some hv
  obtain ⟨hin, hv⟩ := if_some hv
  cases hv
  obtain ⟨q0, hq0⟩ := hw.ix (a := a) (by omega)
  have hq := hq0
  rw [cf_j hK] at hq
  exact va_last B.1 B.2.1 B.K hw.1 (pL_D s0 z _) hw.2.1 q0 2 hq rfl hin hd (fun H1 locs1 hP _ hS => kk H1 locs1 (hw.wr (by omega) hq0 (h' := h.setJ a i.toNatClampNeg x) (by rw [cf_j hK, Hp.setJ, rowJ_J]) (fun b hb => rfl) (fun b hb => (rowJ_ne h _ hb)) (fun b hb => rfl) hP hS))
theorem q_stR {a kd ck t0 v N : Nat} {i : Int32} {h2 : Hp} {C : String} {T : u_T} (hv : stR z h kd ck a i v = some h2) (B : Bd p s0 s E m c cc nL own) (hw : Pw s0 s E z h H locs) (hkd : 17 ≤ kd) (hkd2 : kd < 21) (hck : ck < 13) (hc : vwCl[ck]? = some (C, T, N)) (ht : (tysE E)[t0]? = some (E.cy kd, .object C)) (hd : decode cc pc = .ok (.aastore, 1))
    (kk : ∀ (H1 : Heap) (locs1 : List Loc), Pw s0 s E z h2 H1 locs1 → W p l e R s m args below meth c H1 locs1 cells slots Q (F0 m (pc + 1) ls rest)) : W p l e R s m args below meth c H locs cells slots Q (F0 m pc ls (.ref v :: .int i :: .ref a :: rest)) := by
  obtain ⟨⟨hK, hKv⟩, hv⟩ := if_some hv
  obtain ⟨hin, hv⟩ := if_some hv
  cases hv
  obtain ⟨q0, hq0⟩ := hw.ix (a := a) (by omega)
  obtain ⟨q1, hq1⟩ := hw.ix (a := v) (by omega)
  have hq := hq0
  rw [cf_r hK hkd] at hq
  rw [cf_o hKv hck] at hq1
  exact va_astq B.1 B.2.1 B.K hw.1 (pL_D s0 z _) hw.2.1 q0 t0 q1 ck hq ht hq1 hc hin hd (fun H1 locs1 hP _ hS => kk H1 locs1 (hw.wr (by omega) hq0 (h' := h.setR a i.toNatClampNeg (some v)) (by rw [cf_r hK hkd, Hp.setR, rowR_R]) (fun b hb => rfl) (fun b hb => rfl) (fun b hb => (rowR_ne h _ hb)) hP hS))
theorem q_len {a : Nat} {v : Int32} (hv : aL z a = some v) (B : Bd p s0 s E m c cc nL own) (hw : Pw s0 s E z h H locs) (hd : decode cc pc = .ok (.arraylength, 1))
    (kk : W p l e R s m args below meth c H locs cells slots Q (F0 m (pc + 1) ls (.int v :: rest))) : W p l e R s m args below meth c H locs cells slots Q (F0 m pc ls (.ref a :: rest)) := by
  obtain ⟨hK, hv⟩ := if_some hv
  cases hv
  by_cases h1 : z.K a < 21
  · have hP := hw.at (a := a) h1
    have h13 : 13 ≤ z.K a := by
      rcases Nat.lt_or_ge (z.K a) 13 with q | q
      · exfalso
        revert hK
        generalize z.K a = k at q
        revert k
        decide
      · exact q
    by_cases h15 : z.K a = 15
    · rw [cf_j h15] at hP
      exact va_alen B.1 B.2.1 B.K hP 0 2 rfl rfl rfl hd kk
    · by_cases h17 : z.K a < 17
      · rw [cf_i rfl h13 h17 h15] at hP
        have : z.K a = 13 ∨ z.K a = 14 ∨ z.K a = 16 := by omega
        rcases this with q | q | q
        · rw [q] at hP
          exact va_alen B.1 B.2.1 B.K hP 0 0 rfl rfl rfl hd kk
        · rw [q] at hP
          exact va_alen B.1 B.2.1 B.K hP 0 1 rfl rfl rfl hd kk
        · rw [q] at hP
          exact va_alen B.1 B.2.1 B.K hP 0 3 rfl rfl rfl hd kk
      · rw [cf_r rfl (by omega)] at hP
        have : z.K a = 17 ∨ z.K a = 18 ∨ z.K a = 19 ∨ z.K a = 20 := by omega
        rcases this with q | q | q | q
        · rw [q] at hP
          exact va_alen B.1 B.2.1 B.K hP 0 4 rfl rfl rfl hd kk
        · rw [q] at hP
          exact va_alen B.1 B.2.1 B.K hP 0 5 rfl rfl rfl hd kk
        · rw [q] at hP
          exact va_alen B.1 B.2.1 B.K hP 0 6 rfl rfl rfl hd kk
        · rw [q] at hP
          exact va_alen B.1 B.2.1 B.K hP 0 7 rfl rfl rfl hd kk
  · have h2 : z.K a = 33 ∨ z.K a = 34 ∨ z.K a = 35 := by
      simp only [isA, Bool.or_eq_true, Bool.and_eq_true, beq_iff_eq, Nat.ble_eq] at hK
      omega
    rcases h2 with q | q | q
    · exact va_tlen B.1 B.2.1 (B.T (hw.2.2.2.2.1 a q)) hw.2.1 rfl hd kk
    · exact va_tlen B.1 B.2.1 (B.T (hw.2.2.2.2.2.1 a q)) hw.2.1 rfl hd kk
    · exact va_tlen B.1 B.2.1 (B.T (hw.2.2.2.2.2.2.1 a q)) hw.2.1 rfl hd kk
end
