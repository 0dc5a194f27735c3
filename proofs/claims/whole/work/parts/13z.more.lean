/-! ===== a static that is only carried ===== -/
section
variable {p : Program} {l : Launch} {e : Env} {R : Room} {s : State} {m : MethodId} {args : Array Value} {below : List Frame} {meth : Method} {c : Code} {H : Heap} {locs : List Loc} {cells slots : Nat} {Q : State → Prop} {pc : Nat} {ls : Array Slot} {rest : List Value} {s0 : State} {E : Ev} {z : Sh} {h : Hp} {cc : ByteArray} {nL : Nat} {own : String}
theorem q_gsO {C n d ref : String} {index k : Nat} (hZ : va_Z C n d (va_rf (opS (E.st k))) (Ax s0) s0 s0.heap) (B : Bd p s0 s E m c cc nL own) (hw : Pw s0 s E z h H locs) (hs : C = ref) (hl : Cond.fieldLink own index ref n d ∈ lw_tbl) (hd : decode cc pc = .ok (.getstatic index, 3))
    (kk : W p l e R s m args below meth c H locs cells slots Q (F0 m (pc + 3) ls (va_rf (opS (z.st k)) :: rest))) : W p l e R s m args below meth c H locs cells slots Q (F0 m pc ls rest) := by
  rw [hw.2.2.2.1 k] at kk
  exact va_gets B.1 B.2.1 ((hZ.moved B.2.2.2.2.1.alike).kept B.keep) hw.2.1 B.2.2.2.1 (B.w hl rfl) (fun _ q => by rw [hs] at q; exact q) hd kk
end
