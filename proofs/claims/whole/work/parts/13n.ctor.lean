/-! ===== final fields in constructors; Object() ===== -/
section
variable {p : Program} {l : Launch} {e : Env} {R : Room} {s : State} {m : MethodId} {args : Array Value} {below : List Frame} {meth : Method} {c : Code} {H : Heap} {locs : List Loc} {cells slots : Nat} {Q : State → Prop} {pc : Nat} {ls : Array Slot} {rest : List Value} {s0 : State} {E : Ev} {z : Sh} {h : Hp} {cc : ByteArray} {nL : Nat} {own : String}
theorem q_putRF {a ci k N index : Nat} {C ref : String} {T : u_T} {v : Nat} {h2 : Hp} (hv : pR z h ci a k (some v) = some h2) (B : Bd p s0 s E m c cc nL own) (hw : Pw s0 s E z h H locs) (hin : meth.name = "<init>") (hc : vwCl[ci]? = some (C, T, N)) (hci : ci < 13) (hk : k < N) (hkn : k < nf ci) (hr : rb ci k = true) (hs : (T k).1 = ref) (hfin : (T k).2.2.2 = true) (hdecl : (T k).1 = own) {ty : FieldType} (hd0 : parseFieldDescriptor (T k).2.2.1 = some ty) (ht : (∃ n, ty = .object n) ∨ ∃ t, ty = .array t) (ty0 : Nat → FieldType) (hty : ∀ k, k < N → parseFieldDescriptor (T k).2.2.1 = some (ty0 k)) (hnm : ∀ a, a < N → ∀ b, b < N → a ≠ b → (T a).2.1 ≠ (T b).2.1) (hl : (Cond.fieldLink own index ref (T k).2.1 (T k).2.2.1) ∈ lw_tbl) (hd : decode cc pc = .ok (.putfield index, 3))
    (kk : ∀ (H1 : Heap) (locs1 : List Loc), Pw s0 s E z h2 H1 locs1 → W p l e R s m args below meth c H1 locs1 cells slots Q (F0 m (pc + 3) ls rest)) : W p l e R s m args below meth c H locs cells slots Q (F0 m pc ls (.ref v :: .ref a :: rest)) := by
  obtain ⟨hK, hv⟩ := if_some hv
  cases hv
  obtain ⟨q0, hq0⟩ := hw.ix (a := a) (by omega)
  have hq := hq0
  rw [cf_o hK hci] at hq
  exact va_putF (v := va_rf (some v)) B.1 B.2.1 (B.u hc) (fun _ q => q) ty0 hty hnm B.2.2.2.1 B.K hw.1 (pL_D s0 z _) hw.2.1 q0 hq hc k hk (B.w hl rfl) (fun _ q => by rw [hs] at q; exact q) hfin hin hdecl hd0 (by rcases ht with ⟨n, rfl⟩ | ⟨t, rfl⟩; exact nar_rf _; exact nar_rfA _) (by rcases ht with ⟨n, rfl⟩ | ⟨t, rfl⟩; exact fits_rf _; exact fits_rfA _) (by rw [obl_len]; exact hkn) hd (fun H1 locs1 hP _ hS => kk H1 locs1 (hw.wr (by omega) hq0 (h' := h.setR a k (some v)) (by rw [cf_o hK hci, ← obl_R h ci a k (some v) hr]) (fun b hb => rfl) (fun b hb => rfl) (fun b hb => (rowR_ne h _ hb)) hP hS))
theorem q_putNull {a ci k N index : Nat} {C ref : String} {T : u_T} {h2 : Hp} (hv : pR z h ci a k none = some h2) (B : Bd p s0 s E m c cc nL own) (hw : Pw s0 s E z h H locs) (hc : vwCl[ci]? = some (C, T, N)) (hci : ci < 13) (hk : k < N) (hkn : k < nf ci) (hr : rb ci k = true) (hs : (T k).1 = ref) (hfin : (T k).2.2.2 = false) {ty : FieldType} (hd0 : parseFieldDescriptor (T k).2.2.1 = some ty) (ht : (∃ n, ty = .object n) ∨ ∃ t, ty = .array t) (ty0 : Nat → FieldType) (hty : ∀ k, k < N → parseFieldDescriptor (T k).2.2.1 = some (ty0 k)) (hnm : ∀ a, a < N → ∀ b, b < N → a ≠ b → (T a).2.1 ≠ (T b).2.1) (hl : (Cond.fieldLink own index ref (T k).2.1 (T k).2.2.1) ∈ lw_tbl) (hd : decode cc pc = .ok (.putfield index, 3))
    (kk : ∀ (H1 : Heap) (locs1 : List Loc), Pw s0 s E z h2 H1 locs1 → W p l e R s m args below meth c H1 locs1 cells slots Q (F0 m (pc + 3) ls rest)) : W p l e R s m args below meth c H locs cells slots Q (F0 m pc ls (.null :: .ref a :: rest)) := q_putO (v := none) hv B hw hc hci hk hkn hr hs hfin hd0 ht ty0 hty hnm hl hd kk
theorem q_obj {index a : Nat} (B : Bd p s0 s E m c cc nL own) (hls : ls.size = nL) (hl : Cond.methodLink own index Lib.objectInit ∈ lw_tbl) (hi : Cond.instanceMethod Lib.objectInit ∈ lw_tbl) (hcd : Cond.code Lib.objectInit ⟨#[0xb1]⟩ 1 none ∈ lw_tbl) (hf : 1 ≤ R.frames) (hlo : 2 * (F0 m pc ls (.ref a :: rest)).monitorRoom + (rest.map fun v => v.category).sum + 12 ≤ R.locals) (hd : decode cc pc = .ok (.invokespecial index, 3))
    (kk : W p l e R s m args below meth c H locs cells slots Q (F0 m (pc + 3) ls rest)) : W p l e R s m args below meth c H locs cells slots Q (F0 m pc ls (.ref a :: rest)) :=
  W.objInit B.1 B.2.1 B.2.2.2.1 (B.w hl rfl) (B.w hi rfl) (B.w hcd rfl) rfl (by show ls.size = _; rw [hls, B.2.2.1]) rfl hd hf hlo kk
end
theorem lgc_lt (x y : Int64) : lg_cmp x y < 0 ↔ x < y := by
  unfold lg_cmp
  split
  · rename_i q
    constructor
    · intro w
      exact absurd w (by decide)
    · intro w
      have h1 := Int64.lt_iff_toInt_lt.mp q
      have h2 := Int64.lt_iff_toInt_lt.mp w
      omega
  · split
    · rename_i q1 q2
      subst q2
      constructor
      · intro w
        exact absurd w (by decide)
      · intro w
        exact absurd w q1
    · rename_i q1 q2
      constructor
      · intro _
        rw [Int64.lt_iff_toInt_lt]
        have h1 : ¬ y.toInt < x.toInt := fun w => q1 (Int64.lt_iff_toInt_lt.mpr w)
        have h2 : ¬ x.toInt = y.toInt := fun w => q2 (Int64.toInt_inj.mp w)
        omega
      · intro _
        decide
