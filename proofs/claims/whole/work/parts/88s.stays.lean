/-! ===== town, 18: what stays over a call of town ===== -/
theorem rX_t : ∀ q ∈ rX, q.1 < 72 ∧ ¬ (q.1 = 0 ∧ q.2.1 = 3) ∧ ¬ (q.1 = 2 ∧ (q.2.1 = 2 ∨ q.2.1 = 8)) := by decide +kernel
def Et (b : Nat) (z : Sh) (h : Hp) (z' : Sh) (h' : Hp) : Prop := (z.sz ≤ z'.sz ∧ z'.sz ≤ z.sz + 1000 ∧ z.sl ≤ z'.sl ∧ z'.sl ≤ z.sl + 2000) ∧ (∀ a, a < z.sz → z'.K a = z.K a ∧ z'.N a = z.N a) ∧ (∀ k, z'.st k = z.st k) ∧ (∀ a, a < z.sz → a ≠ b → a ≠ b + 2 → a ≠ b + 7 → a ≠ b + 11 → a ≠ b + 12 → a ≠ b + 15 → a ≠ b + 72 → a ≠ b + 73 → a ≠ b + 76 → h'.I a = h.I a) ∧ (∀ a, a < z.sz → h'.J a = h.J a) ∧ (∀ a, a < z.sz → a ≠ b → a ≠ b + 2 → h'.R a = h.R a) ∧ (∀ k, k ≠ 3 → h'.R b k = h.R b k) ∧ (∀ k, k ≠ 2 → k ≠ 8 → h'.R (b + 2) k = h.R (b + 2) k) ∧ ∀ k, 1458 ≤ k → h'.I (b + 73) k = h.I (b + 73) k
section
variable {z0 : Sh} {h0 : Hp} {b c : Nat} {z z' : Sh} {h h' : Hp}
theorem Et.K (E : Et b z h z' h') {a : Nat} (ha : a < z.sz) : h'.R a = h.R a ∨ a = b ∨ a = b + 2 := by
  by_cases q1 : a = b
  · exact Or.inr (Or.inl q1)
  · by_cases q2 : a = b + 2
    · exact Or.inr (Or.inr q2)
    · exact Or.inl (E.2.2.2.2.2.1 a ha q1 q2)
theorem Et.far (E : Et b z h z' h') {a : Nat} (ha : a < z.sz) (hf : a < b ∨ a = b + 8 ∨ (b + 16 ≤ a ∧ a < b + 72) ∨ (b + 77 ≤ a)) : h'.I a = h.I a ∧ h'.J a = h.J a ∧ h'.R a = h.R a :=
  ⟨E.2.2.2.1 a ha (by omega) (by omega) (by omega) (by omega) (by omega) (by omega) (by omega) (by omega) (by omega), E.2.2.2.2.1 a ha, E.2.2.2.2.2.1 a ha (by omega) (by omega)⟩
theorem LawX.et (hb : b + 92 ≤ z.sz) (E : Et b z h z' h') {a : Nat} {L : List Nat} (H : LawX b z h a L) : LawX b z' h' a L := by
  obtain ⟨h1, h2, h3, h4⟩ := H
  have ha : a < z.sz := by omega
  have e1 := E.1.1
  refine ⟨by omega, by rw [(E.2.1 a ha).1]; exact h2, by rw [(E.2.1 a ha).2]; exact h3, fun j hj => ?_⟩
  rw [(E.far ha (by omega)).1]
  exact h4 j hj
theorem TownX.et (hb : b + 92 ≤ z.sz) (E : Et b z h z' h') {t : Nat} {τ : TT} (H : TownX b z h t τ) : TownX b z' h' t τ ∧ h'.I t = h.I t := by
  obtain ⟨h1, h2, h3, h4, h5, ⟨a, h6, h7⟩, a', h8, h9⟩ := H
  have ht : t < z.sz := by omega
  have e1 := E.1.1
  obtain ⟨eI, -, eR⟩ := E.far ht (by omega)
  exact ⟨⟨by omega, by rw [(E.2.1 t ht).1]; exact h2, by rw [eI]; exact h3, by rw [eI]; exact h4, by rw [eI]; exact h5, ⟨a, by rw [eR]; exact h6, h7.et hb E⟩, a', by rw [eR]; exact h8, h9.et hb E⟩, eI⟩
theorem WaysI.et (hb : b + 92 ≤ z.sz) (E : Et b z h z' h') (H : WaysI b c z h) : WaysI b c z' h' := by
  obtain ⟨wt, ω, tal, md, st, ts, h1, h2, h3, h4, h5, h6, h7, h8, h9, h10, h11, h12, h13, h14, h15, h16⟩ := H
  have e1 := E.1.1
  have f44 := E.far (a := b + 44) (by omega) (by omega)
  have f45 := E.far (a := b + 45) (by omega) (by omega)
  have f46 := E.far (a := b + 46) (by omega) (by omega)
  have f52 := E.far (a := b + 52) (by omega) (by omega)
  have f57 := E.far (a := b + 57) (by omega) (by omega)
  have f55 := E.far (a := b + 55) (by omega) (by omega)
  have f58 := E.far (a := b + 58) (by omega) (by omega)
  refine ⟨wt, ω, tal, md, st, ts, ?_, (h2.et hb E).1, h3, h4, ?_, ?_, ?_, ?_, h9, h10, h11, ?_, ?_, ?_, ?_, ?_⟩
  · rw [f44.2.2]; exact h1
  · rw [f44.1]; exact h5
  · rw [f44.1]; exact h6
  · rw [f44.1]; exact h7
  · rw [f44.1]; exact h8
  · rw [f46.1]; exact h12
  · rw [f52.2.1]; exact h13
  · rw [f57.2.1]; exact h14
  · intro k hk mo hm
    rw [f45.2.2] at hm
    obtain ⟨q1, q2, q3, q4, q5, q6, q7, q8, q9⟩ := h15 k hk mo hm
    have f1 := E.far (a := mo) (by omega) (by omega)
    have f2 := E.far (a := mo + 1) (by omega) (by omega)
    have k1 := E.2.1 mo (by omega)
    have k2 := E.2.1 (mo + 1) (by omega)
    rw [f45.2.2, f55.2.2, f1.2.2, f2.2.1, k1.1, k2.1, k2.2]
    exact ⟨q1, by omega, q3, q4, q5, q6, q7, q8, q9⟩
  · intro mo hm
    rw [f55.2.2] at hm
    obtain ⟨q1, q2, q3, q4, q5, q6, q7, q8⟩ := h16 mo hm
    have f1 := E.far (a := mo) (by omega) (by omega)
    have f2 := E.far (a := mo + 1) (by omega) (by omega)
    have k1 := E.2.1 mo (by omega)
    have k2 := E.2.1 (mo + 1) (by omega)
    rw [f58.1, f1.2.2, f2.2.1, k1.1, k2.1, k2.2]
    exact ⟨q1, by omega, q3, q4, q5, q6, q7, q8⟩
theorem ImgI.et (hb : b + 92 ≤ z.sz) (E : Et b z h z' h') {i : Nat} (hi : i < 2) (H : ImgI b z h i) : ImgI b z' h' i := by
  have i74 : h'.I (b + 74) = h.I (b + 74) := E.2.2.2.1 _ (by omega) (by omega) (by omega) (by omega) (by omega) (by omega) (by omega) (by omega) (by omega) (by omega)
  have f37 := E.far (a := b + 37) (by omega) (by omega)
  have i73 : img (h'.I (b + 73)) i = img (h.I (b + 73)) i := by
    funext k
    exact E.2.2.2.2.2.2.2.2 _ (by
      have : 1458 ≤ 1458 * (i + 1) := by omega
      omega)
  rcases H with ⟨q1, q2⟩ | ⟨q1, t', τ', P', q2, q3, q4, q5, q6, q7, q8, q9⟩
  · exact Or.inl ⟨by rw [i74]; exact q1, by rw [f37.2.2]; exact q2⟩
  · have q3' := q3.et hb E
    refine Or.inr ⟨by rw [i74]; exact q1, t', τ', P', by rw [f37.2.2]; exact q2, q3'.1, q4, by rw [i73]; exact q5, by rw [i73, q3'.2]; exact q6, by rw [i73]; exact q7, q8, ?_⟩
    rw [i73, (E.far (a := b + 60 + 2 * i) (by omega) (by omega)).1, (E.far (a := b + 61 + 2 * i) (by omega) (by omega)).1]
    exact q9
/-- a call of town keeps all the rest -/
theorem Inv.town (I : Inv z0 h0 b c z h) (E : Et b z h z' h') (TP : TapeI b h') (NW : NowI b z' h') : Inv z0 h0 b (c + 1) z' h' := by
  obtain ⟨i1, i2, i3, i4, ⟨i5, i5'⟩, i6, i7, i8, i9⟩ := I
  have hb : b + 92 ≤ z.sz := i9.1
  have e0 := E.1
  refine ⟨⟨fun a ha => ?_, fun k => (E.2.2.1 k).trans (i1.2 k)⟩, ⟨fun o ho => ?_, fun q hq => ?_⟩, ⟨fun o ho => ?_, fun q hq => ?_⟩, NW, ⟨i5.et hb E (by decide), i5'.et hb E (by decide)⟩, ?_, TP, (i8.et hb E).up, ?_⟩
  · obtain ⟨b1, b2, b3, b4, b5⟩ := i1.1 a ha
    have k1 := E.2.1 a (by omega)
    obtain ⟨f1, f2, f3⟩ := E.far (a := a) (by omega) (by omega)
    exact ⟨k1.1.trans b1, k1.2.trans b2, f1.trans b3, f2.trans b4, f3.trans b5⟩
  · have k1 := E.2.1 (b + o) (by omega)
    rw [k1.1, k1.2]
    exact i2.1 o ho
  · have r := rX_t q hq
    have := i2.2 q hq
    refine Eq.trans ?_ this
    show h'.R (b + q.1) q.2.1 = h.R (b + q.1) q.2.1
    by_cases q0 : q.1 = 0
    · rw [q0]
      exact E.2.2.2.2.2.2.1 _ (by omega)
    · by_cases q2 : q.1 = 2
      · rw [q2]
        exact E.2.2.2.2.2.2.2.1 _ (by omega) (by omega)
      · rw [E.2.2.2.2.2.1 _ (by omega) (by omega) (by omega)]
  · have k1 := E.2.1 (b + 72 + o) (by omega)
    rw [k1.1, k1.2]
    exact i3.1 o ho
  · have r := rM_20 q hq
    refine Eq.trans ?_ (i3.2 q hq)
    show h'.R (b + 72 + q.1) q.2.1 = h.R (b + 72 + q.1) q.2.1
    rw [E.2.2.2.2.2.1 _ (by omega) (by omega) (by omega)]
  · exact TrayI.fr (fun k h1 h2 => (E.far (by omega) (by omega)).1) (fun k h1 h2 => (E.far (by omega) (by omega)).2.1) (E.far (by omega) (by omega)).1 (E.far (by omega) (by omega)).1 (E.far (by omega) (by omega)).2.1 i6
  · obtain ⟨r1, r2, r3, r4⟩ := i9
    have f45 := (E.far (a := b + 45) (by omega) (by omega)).2.2
    have f55 := (E.far (a := b + 55) (by omega) (by omega)).2.2
    unfold RoomI
    rw [f45, f55]
    exact ⟨by omega, by omega, by omega, by omega⟩
/-- the town that stood still stands -/
theorem NowI.et (hb : b + 92 ≤ z.sz) (E : Et b z h z' h') (hR : h'.R b 3 = h.R b 3) (h73 : h'.I (b + 73) = h.I (b + 73)) (h11 : h'.I (b + 11) = h.I (b + 11)) (h12 : h'.I (b + 12) = h.I (b + 12)) (h15 : h'.I (b + 15) = h.I (b + 15)) (H : NowI b z h) : NowI b z' h' := by
  obtain ⟨t, τ, P, n1, n2, n3, n4, n5, n6, n7, n8, n9⟩ := H
  have hT := n2.et hb E
  refine ⟨t, τ, P, hR.trans n1, hT.1, n3, by rw [h73]; exact n4, by rw [h73, hT.2]; exact n5, by rw [h73]; exact n6, n7, by rw [h73, h11, h12]; exact n8, ?_⟩
  obtain ⟨nx, sz, p1, p2, p3, p4, p5, p6⟩ := n9
  refine ⟨nx, sz, p1, p2, by rw [h15]; exact p3, by rw [h15]; exact p4, by rw [h73]; exact p5, fun i hi => ?_⟩
  have := p6 i hi
  rw [h73]
  have f1 := (E.far (a := b + 17 + (2 * ((nx + 10 - sz + i) % 10))) (by omega) (by omega)).1
  have f2 := (E.far (a := b + 17 + (2 * ((nx + 10 - sz + i) % 10) + 1)) (by omega) (by omega)).1
  show PplI τ P (h'.I (b + 17 + (2 * ((nx + 10 - sz + i) % 10)))) (h'.I (b + 17 + (2 * ((nx + 10 - sz + i) % 10) + 1))) _
  rw [f1, f2]
  exact this
end
