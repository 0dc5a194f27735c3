/-! ===== town, 10: what has been told so far ===== -/
abbrev Dt : Type := Nat × Nat × Nat × Nat × Nat × Nat × (Nat → Nat) × (Nat → Nat) × List Nat × List Nat
def LwC (b : Nat) (z : Sh) (h : Hp) (t k : Nat) (L : List Nat) : Prop := ∃ a, h.R t k = some a ∧ (a ≠ t ∧ a ≠ t + 1 ∧ a ≠ t + 2) ∧ LawX b z h a L
/-- the class's town -/
def CT (b : Nat) (z : Sh) (t : Nat) : Dt → Hp → Prop
  | (yr, tr, P, ca, di, li, tal, fe, LW, LG), h => (h.R (b + 2) 8 = some t ∧ b + 92 ≤ t ∧ t + 2 < z.sz) ∧ (z.K t = 8 ∧ (z.K (t + 1) = 14 ∧ z.N (t + 1) = 6) ∧ z.K (t + 2) = 14 ∧ z.N (t + 2) = 6) ∧ (h.R t 6 = some (t + 1) ∧ h.R t 7 = some (t + 2)) ∧ h.I t 0 = nI yr ∧ h.I t 1 = nI tr ∧ h.I t 2 = nI P ∧ h.I t 3 = nI ca ∧ h.I t 4 = nI di ∧ h.I t 5 = nI li ∧ (∀ p, p < P → h.I (t + 1) p = nI (tal p) ∧ h.I (t + 2) p = nI (fe p)) ∧ LwC b z h t 8 LW ∧ LwC b z h t 9 LG
def DOK : Dt → Prop
  | (yr, tr, P, ca, di, _, tal, fe, LW, LG) => (1 ≤ yr ∧ yr ≤ 6) ∧ (1 ≤ tr ∧ tr ≤ 4) ∧ P ≤ 6 ∧ ca ≤ 999 ∧ di ≤ 10 ∧ (∀ p, p < P → tal p ≤ 9 ∧ fe p ≤ 9) ∧ LawOK 7 LW ∧ LawOK 2 LG
def LawM (F : Nat → Int32) (M : List Nat) (i : Nat) (L : List Nat) (d : Nat) : Prop := (F (5 + i) = nI 0 ∧ L = [d]) ∨ (F (5 + i) = nI 1 ∧ ∃ fr, F (7 + i) = nI fr ∧ F (9 + i) = nI L.length ∧ fr + L.length ≤ M.length ∧ ∀ k, k < L.length → M.getD (fr + k) 0 = L.getD k 0)
def plV (k : Nat) : Int32 := if 24 ≤ k ∧ k < 30 then 1 else if 36 ≤ k ∧ k < 42 then 9 else 0
/-- the reference's -/
def RT (b : Nat) (M : List Nat) : Dt → Hp → Prop
  | (yr, tr, P, ca, di, li, tal, fe, LW, LG), g => g.I (b + 76) 0 = nI li ∧ g.I (b + 76) 1 = nI yr ∧ g.I (b + 76) 2 = nI tr ∧ g.I (b + 76) 3 = nI P ∧ g.I (b + 76) 4 = nI di ∧ g.I (b + 76) 17 = nI ca ∧ (∀ p, p < P → g.I (b + 76) (54 + p) = nI (tal p) ∧ g.I (b + 76) (11 + p) = nI (fe p)) ∧ (∀ p, P ≤ p → p < 6 → g.I (b + 76) (54 + p) = nI 0) ∧ (∀ k, 18 ≤ k → k < 54 → g.I (b + 76) k = plV k) ∧ (∀ k, 60 ≤ k → k < 67 → g.I (b + 76) k = nI 0) ∧ LawM (g.I (b + 76)) M 0 LW 1 ∧ LawM (g.I (b + 76)) M 1 LG 0
theorem LawM.mv {F F' : Nat → Int32} {M : List Nat} {i d : Nat} {L : List Nat} (H : LawM F M i L d) (C : List Nat) (h5 : F' (5 + i) = F (5 + i)) (h7 : F' (7 + i) = F (7 + i)) (h9 : F' (9 + i) = F (9 + i)) : LawM F' (M ++ C) i L d := by
  rcases H with ⟨q1, q2⟩ | ⟨q1, fr, q2, q3, q4, q5⟩
  · exact Or.inl ⟨h5.trans q1, q2⟩
  · refine Or.inr ⟨h5.trans q1, fr, h7.trans q2, h9.trans q3, by rw [List.length_append]; omega, fun k hk => ?_⟩
    rw [← q5 k hk, List.getD_eq_getElem?_getD, List.getD_eq_getElem?_getD, List.getElem?_append_left (by omega)]
theorem RT.mv {b : Nat} {M : List Nat} {D : Dt} {g g' : Hp} (H : RT b M D g) (hD : D.2.2.1 ≤ 6) (C : List Nat) (E : ∀ k, k < 557 → g'.I (b + 76) k = g.I (b + 76) k) : RT b (M ++ C) D g' := by
  obtain ⟨yr, tr, P, ca, di, li, tal, fe, LW, LG⟩ := D
  obtain ⟨r1, r2, r3, r4, r5, r6, r7, r8, r9, r10, r11, r12⟩ := H
  refine ⟨(E 0 (by decide)).trans r1, (E 1 (by decide)).trans r2, (E 2 (by decide)).trans r3, (E 3 (by decide)).trans r4, (E 4 (by decide)).trans r5, (E 17 (by decide)).trans r6, fun p hp => ?_, fun p h1 h2 => (E _ (by omega)).trans (r8 p h1 h2), fun k h1 h2 => (E k (by omega)).trans (r9 k h1 h2), fun k h1 h2 => (E k (by omega)).trans (r10 k h1 h2), r11.mv C (E _ (by decide)) (E _ (by decide)) (E _ (by decide)), r12.mv C (E _ (by decide)) (E _ (by decide)) (E _ (by decide))⟩
  have hD : P ≤ 6 := hD
  exact ⟨(E _ (by omega)).trans (r7 p hp).1, (E _ (by omega)).trans (r7 p hp).2⟩
theorem RT.fr {b : Nat} {M : List Nat} {D : Dt} {g g' : Hp} (H : RT b M D g) (hD : D.2.2.1 ≤ 6) (E : FrR b g g') : RT b M D g' := by
  have := H.mv hD [] E.2.2.2.2
  rw [List.append_nil] at this
  exact this
theorem LwC.mv {b : Nat} {z z' : Sh} {h h' : Hp} {t k : Nat} {L : List Nat} (H : LwC b z h t k L) (hR : h'.R t k = h.R t k) (hsz : z.sz ≤ z'.sz) (hK : ∀ a, a < z.sz → z'.K a = z.K a ∧ z'.N a = z.N a) (hb : b ≤ z.sz) (hI : ∀ a, a < b ∨ (b + 92 ≤ a ∧ a < z.sz) → a ≠ t → a ≠ t + 1 → a ≠ t + 2 → h'.I a = h.I a) : LwC b z' h' t k L := by
  obtain ⟨a, q1, q2, q3, q4, q5, q6⟩ := H
  have ha : a < z.sz := by omega
  refine ⟨a, hR.trans q1, q2, by omega, by rw [(hK a ha).1]; exact q4, by rw [(hK a ha).2]; exact q5, fun j hj => ?_⟩
  rw [hI a q3 q2.1 q2.2.1 q2.2.2]
  exact q6 j hj
theorem CT.fc {b : Nat} {z : Sh} {t : Nat} {D : Dt} {h h' : Hp} (H : CT b z t D h) (E : Fc b h h') : CT b z t D h' := by
  obtain ⟨yr, tr, P, ca, di, li, tal, fe, LW, LG⟩ := D
  obtain ⟨⟨r1, r2, r3⟩, r4, ⟨r5, r6⟩, i0, i1, i2, i3, i4, i5, ip, l1, l2⟩ := H
  have e0 := E.2.2 t (by omega) (by omega)
  have e1 := E.2.2 (t + 1) (by omega) (by omega)
  have e2 := E.2.2 (t + 2) (by omega) (by omega)
  refine ⟨⟨(congrFun (E.1 _) _).trans r1, r2, r3⟩, r4, ⟨(congrFun (E.1 _) _).trans r5, (congrFun (E.1 _) _).trans r6⟩, by rw [e0]; exact i0, by rw [e0]; exact i1, by rw [e0]; exact i2, by rw [e0]; exact i3, by rw [e0]; exact i4, by rw [e0]; exact i5, fun p hp => by rw [e1, e2]; exact ip p hp, ?_, ?_⟩
  · exact l1.mv (congrFun (E.1 _) _) (Nat.le_refl _) (fun _ _ => ⟨rfl, rfl⟩) (by omega) (fun a ha _ _ _ => E.2.2 a (by omega) (by omega))
  · exact l2.mv (congrFun (E.1 _) _) (Nat.le_refl _) (fun _ _ => ⟨rfl, rfl⟩) (by omega) (fun a ha _ _ _ => E.2.2 a (by omega) (by omega))
theorem CT.s_yr {b : Nat} {z : Sh} {t x : Nat} {yr tr P ca di li : Nat} {tal fe : Nat → Nat} {LW LG : List Nat} {h : Hp} (H : CT b z t (yr, tr, P, ca, di, li, tal, fe, LW, LG) h) : CT b z t ((x), tr, P, ca, di, li, tal, fe, LW, LG) (h.setI t 0 (nI x)) := by
  obtain ⟨⟨r1, r2, r3⟩, r4, ⟨r5, r6⟩, i0, i1, i2, i3, i4, i5, ip, l1, l2⟩ := H
  refine ⟨⟨r1, r2, r3⟩, r4, ⟨r5, r6⟩, sI_eq, (sI_ne (by decide)).trans i1, (sI_ne (by decide)).trans i2, (sI_ne (by decide)).trans i3, (sI_ne (by decide)).trans i4, (sI_ne (by decide)).trans i5, fun p hp => by rw [sI_o (show t + 1 ≠ t by omega), sI_o (show t + 2 ≠ t by omega)]; exact ip p hp, ?_, ?_⟩
  · exact l1.mv rfl (Nat.le_refl _) (fun _ _ => ⟨rfl, rfl⟩) (by omega) (fun a _ q _ _ => sI_o q)
  · exact l2.mv rfl (Nat.le_refl _) (fun _ _ => ⟨rfl, rfl⟩) (by omega) (fun a _ q _ _ => sI_o q)
theorem CT.s_tr {b : Nat} {z : Sh} {t x : Nat} {yr tr P ca di li : Nat} {tal fe : Nat → Nat} {LW LG : List Nat} {h : Hp} (H : CT b z t (yr, tr, P, ca, di, li, tal, fe, LW, LG) h) : CT b z t (yr, (x), P, ca, di, li, tal, fe, LW, LG) (h.setI t 1 (nI x)) := by
  obtain ⟨⟨r1, r2, r3⟩, r4, ⟨r5, r6⟩, i0, i1, i2, i3, i4, i5, ip, l1, l2⟩ := H
  refine ⟨⟨r1, r2, r3⟩, r4, ⟨r5, r6⟩, (sI_ne (by decide)).trans i0, sI_eq, (sI_ne (by decide)).trans i2, (sI_ne (by decide)).trans i3, (sI_ne (by decide)).trans i4, (sI_ne (by decide)).trans i5, fun p hp => by rw [sI_o (show t + 1 ≠ t by omega), sI_o (show t + 2 ≠ t by omega)]; exact ip p hp, ?_, ?_⟩
  · exact l1.mv rfl (Nat.le_refl _) (fun _ _ => ⟨rfl, rfl⟩) (by omega) (fun a _ q _ _ => sI_o q)
  · exact l2.mv rfl (Nat.le_refl _) (fun _ _ => ⟨rfl, rfl⟩) (by omega) (fun a _ q _ _ => sI_o q)
theorem CT.s_ca {b : Nat} {z : Sh} {t x : Nat} {yr tr P ca di li : Nat} {tal fe : Nat → Nat} {LW LG : List Nat} {h : Hp} (H : CT b z t (yr, tr, P, ca, di, li, tal, fe, LW, LG) h) : CT b z t (yr, tr, P, (x), di, li, tal, fe, LW, LG) (h.setI t 3 (nI x)) := by
  obtain ⟨⟨r1, r2, r3⟩, r4, ⟨r5, r6⟩, i0, i1, i2, i3, i4, i5, ip, l1, l2⟩ := H
  refine ⟨⟨r1, r2, r3⟩, r4, ⟨r5, r6⟩, (sI_ne (by decide)).trans i0, (sI_ne (by decide)).trans i1, (sI_ne (by decide)).trans i2, sI_eq, (sI_ne (by decide)).trans i4, (sI_ne (by decide)).trans i5, fun p hp => by rw [sI_o (show t + 1 ≠ t by omega), sI_o (show t + 2 ≠ t by omega)]; exact ip p hp, ?_, ?_⟩
  · exact l1.mv rfl (Nat.le_refl _) (fun _ _ => ⟨rfl, rfl⟩) (by omega) (fun a _ q _ _ => sI_o q)
  · exact l2.mv rfl (Nat.le_refl _) (fun _ _ => ⟨rfl, rfl⟩) (by omega) (fun a _ q _ _ => sI_o q)
theorem CT.s_di {b : Nat} {z : Sh} {t x : Nat} {yr tr P ca di li : Nat} {tal fe : Nat → Nat} {LW LG : List Nat} {h : Hp} (H : CT b z t (yr, tr, P, ca, di, li, tal, fe, LW, LG) h) : CT b z t (yr, tr, P, ca, (x), li, tal, fe, LW, LG) (h.setI t 4 (nI x)) := by
  obtain ⟨⟨r1, r2, r3⟩, r4, ⟨r5, r6⟩, i0, i1, i2, i3, i4, i5, ip, l1, l2⟩ := H
  refine ⟨⟨r1, r2, r3⟩, r4, ⟨r5, r6⟩, (sI_ne (by decide)).trans i0, (sI_ne (by decide)).trans i1, (sI_ne (by decide)).trans i2, (sI_ne (by decide)).trans i3, sI_eq, (sI_ne (by decide)).trans i5, fun p hp => by rw [sI_o (show t + 1 ≠ t by omega), sI_o (show t + 2 ≠ t by omega)]; exact ip p hp, ?_, ?_⟩
  · exact l1.mv rfl (Nat.le_refl _) (fun _ _ => ⟨rfl, rfl⟩) (by omega) (fun a _ q _ _ => sI_o q)
  · exact l2.mv rfl (Nat.le_refl _) (fun _ _ => ⟨rfl, rfl⟩) (by omega) (fun a _ q _ _ => sI_o q)
theorem CT.s_li {b : Nat} {z : Sh} {t x : Nat} {yr tr P ca di li : Nat} {tal fe : Nat → Nat} {LW LG : List Nat} {h : Hp} (H : CT b z t (yr, tr, P, ca, di, li, tal, fe, LW, LG) h) : CT b z t (yr, tr, P, ca, di, (x), tal, fe, LW, LG) (h.setI t 5 (nI x)) := by
  obtain ⟨⟨r1, r2, r3⟩, r4, ⟨r5, r6⟩, i0, i1, i2, i3, i4, i5, ip, l1, l2⟩ := H
  refine ⟨⟨r1, r2, r3⟩, r4, ⟨r5, r6⟩, (sI_ne (by decide)).trans i0, (sI_ne (by decide)).trans i1, (sI_ne (by decide)).trans i2, (sI_ne (by decide)).trans i3, (sI_ne (by decide)).trans i4, sI_eq, fun p hp => by rw [sI_o (show t + 1 ≠ t by omega), sI_o (show t + 2 ≠ t by omega)]; exact ip p hp, ?_, ?_⟩
  · exact l1.mv rfl (Nat.le_refl _) (fun _ _ => ⟨rfl, rfl⟩) (by omega) (fun a _ q _ _ => sI_o q)
  · exact l2.mv rfl (Nat.le_refl _) (fun _ _ => ⟨rfl, rfl⟩) (by omega) (fun a _ q _ _ => sI_o q)
theorem RT.s_li {b x : Nat} {M : List Nat} {yr tr P ca di li : Nat} {tal fe : Nat → Nat} {LW LG : List Nat} {g : Hp} (H : RT b M (yr, tr, P, ca, di, li, tal, fe, LW, LG) g) : RT b M (yr, tr, P, ca, di, (x), tal, fe, LW, LG) (g.setI (b + 76) 0 (nI x)) := by
  obtain ⟨r1, r2, r3, r4, r5, r6, r7, r8, r9, r10, r11, r12⟩ := H
  refine ⟨sI_eq, (sI_ne (by decide)).trans r2, (sI_ne (by decide)).trans r3, (sI_ne (by decide)).trans r4, (sI_ne (by decide)).trans r5, (sI_ne (by decide)).trans r6, fun p hp => ⟨(sI_ne (by omega)).trans (r7 p hp).1, (sI_ne (by omega)).trans (r7 p hp).2⟩, fun p h1 h2 => (sI_ne (by omega)).trans (r8 p h1 h2), fun k h1 h2 => (sI_ne (by omega)).trans (r9 k h1 h2), fun k h1 h2 => (sI_ne (by omega)).trans (r10 k h1 h2), ?_, ?_⟩
  · have := r11.mv (F' := (g.setI (b + 76) 0 (nI x)).I (b + 76)) [] (sI_ne (by decide)) (sI_ne (by decide)) (sI_ne (by decide))
    rw [List.append_nil] at this
    exact this
  · have := r12.mv (F' := (g.setI (b + 76) 0 (nI x)).I (b + 76)) [] (sI_ne (by decide)) (sI_ne (by decide)) (sI_ne (by decide))
    rw [List.append_nil] at this
    exact this
theorem RT.s_yr {b x : Nat} {M : List Nat} {yr tr P ca di li : Nat} {tal fe : Nat → Nat} {LW LG : List Nat} {g : Hp} (H : RT b M (yr, tr, P, ca, di, li, tal, fe, LW, LG) g) : RT b M ((x), tr, P, ca, di, li, tal, fe, LW, LG) (g.setI (b + 76) 1 (nI x)) := by
  obtain ⟨r1, r2, r3, r4, r5, r6, r7, r8, r9, r10, r11, r12⟩ := H
  refine ⟨(sI_ne (by decide)).trans r1, sI_eq, (sI_ne (by decide)).trans r3, (sI_ne (by decide)).trans r4, (sI_ne (by decide)).trans r5, (sI_ne (by decide)).trans r6, fun p hp => ⟨(sI_ne (by omega)).trans (r7 p hp).1, (sI_ne (by omega)).trans (r7 p hp).2⟩, fun p h1 h2 => (sI_ne (by omega)).trans (r8 p h1 h2), fun k h1 h2 => (sI_ne (by omega)).trans (r9 k h1 h2), fun k h1 h2 => (sI_ne (by omega)).trans (r10 k h1 h2), ?_, ?_⟩
  · have := r11.mv (F' := (g.setI (b + 76) 1 (nI x)).I (b + 76)) [] (sI_ne (by decide)) (sI_ne (by decide)) (sI_ne (by decide))
    rw [List.append_nil] at this
    exact this
  · have := r12.mv (F' := (g.setI (b + 76) 1 (nI x)).I (b + 76)) [] (sI_ne (by decide)) (sI_ne (by decide)) (sI_ne (by decide))
    rw [List.append_nil] at this
    exact this
theorem RT.s_tr {b x : Nat} {M : List Nat} {yr tr P ca di li : Nat} {tal fe : Nat → Nat} {LW LG : List Nat} {g : Hp} (H : RT b M (yr, tr, P, ca, di, li, tal, fe, LW, LG) g) : RT b M (yr, (x), P, ca, di, li, tal, fe, LW, LG) (g.setI (b + 76) 2 (nI x)) := by
  obtain ⟨r1, r2, r3, r4, r5, r6, r7, r8, r9, r10, r11, r12⟩ := H
  refine ⟨(sI_ne (by decide)).trans r1, (sI_ne (by decide)).trans r2, sI_eq, (sI_ne (by decide)).trans r4, (sI_ne (by decide)).trans r5, (sI_ne (by decide)).trans r6, fun p hp => ⟨(sI_ne (by omega)).trans (r7 p hp).1, (sI_ne (by omega)).trans (r7 p hp).2⟩, fun p h1 h2 => (sI_ne (by omega)).trans (r8 p h1 h2), fun k h1 h2 => (sI_ne (by omega)).trans (r9 k h1 h2), fun k h1 h2 => (sI_ne (by omega)).trans (r10 k h1 h2), ?_, ?_⟩
  · have := r11.mv (F' := (g.setI (b + 76) 2 (nI x)).I (b + 76)) [] (sI_ne (by decide)) (sI_ne (by decide)) (sI_ne (by decide))
    rw [List.append_nil] at this
    exact this
  · have := r12.mv (F' := (g.setI (b + 76) 2 (nI x)).I (b + 76)) [] (sI_ne (by decide)) (sI_ne (by decide)) (sI_ne (by decide))
    rw [List.append_nil] at this
    exact this
theorem RT.s_di {b x : Nat} {M : List Nat} {yr tr P ca di li : Nat} {tal fe : Nat → Nat} {LW LG : List Nat} {g : Hp} (H : RT b M (yr, tr, P, ca, di, li, tal, fe, LW, LG) g) : RT b M (yr, tr, P, ca, (x), li, tal, fe, LW, LG) (g.setI (b + 76) 4 (nI x)) := by
  obtain ⟨r1, r2, r3, r4, r5, r6, r7, r8, r9, r10, r11, r12⟩ := H
  refine ⟨(sI_ne (by decide)).trans r1, (sI_ne (by decide)).trans r2, (sI_ne (by decide)).trans r3, (sI_ne (by decide)).trans r4, sI_eq, (sI_ne (by decide)).trans r6, fun p hp => ⟨(sI_ne (by omega)).trans (r7 p hp).1, (sI_ne (by omega)).trans (r7 p hp).2⟩, fun p h1 h2 => (sI_ne (by omega)).trans (r8 p h1 h2), fun k h1 h2 => (sI_ne (by omega)).trans (r9 k h1 h2), fun k h1 h2 => (sI_ne (by omega)).trans (r10 k h1 h2), ?_, ?_⟩
  · have := r11.mv (F' := (g.setI (b + 76) 4 (nI x)).I (b + 76)) [] (sI_ne (by decide)) (sI_ne (by decide)) (sI_ne (by decide))
    rw [List.append_nil] at this
    exact this
  · have := r12.mv (F' := (g.setI (b + 76) 4 (nI x)).I (b + 76)) [] (sI_ne (by decide)) (sI_ne (by decide)) (sI_ne (by decide))
    rw [List.append_nil] at this
    exact this
theorem RT.s_ca {b x : Nat} {M : List Nat} {yr tr P ca di li : Nat} {tal fe : Nat → Nat} {LW LG : List Nat} {g : Hp} (hP : P ≤ 6) (H : RT b M (yr, tr, P, ca, di, li, tal, fe, LW, LG) g) : RT b M (yr, tr, P, (x), di, li, tal, fe, LW, LG) (g.setI (b + 76) 17 (nI x)) := by
  obtain ⟨r1, r2, r3, r4, r5, r6, r7, r8, r9, r10, r11, r12⟩ := H
  refine ⟨(sI_ne (by decide)).trans r1, (sI_ne (by decide)).trans r2, (sI_ne (by decide)).trans r3, (sI_ne (by decide)).trans r4, (sI_ne (by decide)).trans r5, sI_eq, fun p hp => ⟨(sI_ne (by omega)).trans (r7 p hp).1, (sI_ne (by omega)).trans (r7 p hp).2⟩, fun p h1 h2 => (sI_ne (by omega)).trans (r8 p h1 h2), fun k h1 h2 => (sI_ne (by omega)).trans (r9 k h1 h2), fun k h1 h2 => (sI_ne (by omega)).trans (r10 k h1 h2), ?_, ?_⟩
  · have := r11.mv (F' := (g.setI (b + 76) 17 (nI x)).I (b + 76)) [] (sI_ne (by decide)) (sI_ne (by decide)) (sI_ne (by decide))
    rw [List.append_nil] at this
    exact this
  · have := r12.mv (F' := (g.setI (b + 76) 17 (nI x)).I (b + 76)) [] (sI_ne (by decide)) (sI_ne (by decide)) (sI_ne (by decide))
    rw [List.append_nil] at this
    exact this
theorem CS.mv {b N w : Nat} {sv : Nat → Nat} {z z' : Sh} {tx : Nat → Nat} {T : Tk} {L : List Nat} {h h' : Hp} (C : CS b sv z tx N w T L h) (hb : b ≤ z.sz) (hK : ∀ a, a < z.sz → z'.K a = z.K a ∧ z'.N a = z.N a) (hs : ∀ k, z'.st k = z.st k) (hI : ∀ a, a < b + 92 → h'.I a = h.I a) (hR : ∀ a, a < b + 92 → h'.R a = h.R a) : CS b sv z' tx N w T L h' := by
  obtain ⟨⟨c1, c2, c3, c4, c5⟩, d2, d3, d4, d5, d6, d7, d8, d9, d10, d11⟩ := C
  have e2 := hI (b + 2) (by omega)
  refine ⟨⟨?_, ?_, ?_, fun j hj => ?_, fun s h1 h2 => ?_⟩, d2, ?_, ?_, ?_, ?_, fun q => ?_, ?_, ?_, d10, fun q j hj => ?_⟩
  · rw [hR (b + 2) (by omega), e2]; exact c1
  · rw [hR (b + 2) (by omega)]; exact c2
  · rw [e2]; exact c3
  · rw [hI (b + 1) (by omega)]; exact c4 j hj
  · obtain ⟨a1, a2, a3, a4, a5, a6⟩ := c5 s h1 h2
    rw [hs s, hR _ (by omega), (hK _ (by omega)).1, (hK _ (by omega)).2, hI _ (by omega)]
    exact ⟨a1, a2, a3, a4, a5, a6⟩
  · rw [e2]; exact d3
  · rw [e2]; exact d4
  · rw [e2]; exact d5
  · rw [e2]; exact d6
  · rw [e2]; exact d7 q
  · rw [e2]; exact d8
  · rw [e2]; exact d9
  · rw [hI (b + 7) (by omega)]; exact d11 q j hj
theorem CF.mv {b w fl pl : Nat} {h h' : Hp} (C : CF b w fl pl h) (hI : h'.I (b + 2) = h.I (b + 2)) (hR : h'.R (b + 2) = h.R (b + 2)) : CF b w fl pl h' := by
  obtain ⟨c1, c2, c3, c4, c5, c6, c7⟩ := C
  exact ⟨by rw [hI]; exact c1, by rw [hI]; exact c2, c3, c4, c5, by rw [hR]; exact c6, by rw [hI]; exact c7⟩
/-- what the class may change while it reads: zs is where the new cells begin -/
def Gz (b zs : Nat) (z : Sh) (h : Hp) (z' : Sh) (h' : Hp) : Prop := (z.sz ≤ z'.sz ∧ z.sl ≤ z'.sl) ∧ (∀ a, a < z.sz → z'.K a = z.K a ∧ z'.N a = z.N a) ∧ (∀ k, z'.st k = z.st k) ∧ (∀ a, a < zs → a ≠ b + 2 → a ≠ b + 7 → h'.I a = h.I a) ∧ (∀ a, a < zs → h'.J a = h.J a) ∧ ∀ a, a < zs → h'.R a = h.R a
theorem Gz.rf {b zs : Nat} {z : Sh} {h : Hp} : Gz b zs z h z h := ⟨⟨Nat.le_refl _, Nat.le_refl _⟩, fun _ _ => ⟨rfl, rfl⟩, fun _ => rfl, fun _ _ _ _ => rfl, fun _ _ => rfl, fun _ _ => rfl⟩
theorem Gz.tr {b zs : Nat} {z z' z'' : Sh} {h h' h'' : Hp} (A : Gz b zs z h z' h') (B : Gz b zs z' h' z'' h'') : Gz b zs z h z'' h'' := by
  obtain ⟨⟨a1, a2⟩, a3, a4, a5, a6, a7⟩ := A
  obtain ⟨⟨b1, b2⟩, b3, b4, b5, b6, b7⟩ := B
  exact ⟨⟨by omega, by omega⟩, fun a q => ⟨(b3 a (by omega)).1.trans (a3 a q).1, (b3 a (by omega)).2.trans (a3 a q).2⟩, fun k => (b4 k).trans (a4 k), fun a q1 q2 q3 => (b5 a q1 q2 q3).trans (a5 a q1 q2 q3), fun a q => (b6 a q).trans (a6 a q), fun a q => (b7 a q).trans (a7 a q)⟩
theorem Gz.fc {b zs : Nat} {z : Sh} {h h' : Hp} (E : Fc b h h') : Gz b zs z h z h' := ⟨⟨Nat.le_refl _, Nat.le_refl _⟩, fun _ _ => ⟨rfl, rfl⟩, fun _ => rfl, fun a _ q2 q3 => E.2.2 a q2 q3, fun a _ => E.2.1 a, fun a _ => E.1 a⟩
theorem Gz.st {b zs a k : Nat} {z : Sh} {h : Hp} {v : Int32} (ha : zs ≤ a) : Gz b zs z h z (h.setI a k v) := ⟨⟨Nat.le_refl _, Nat.le_refl _⟩, fun _ _ => ⟨rfl, rfl⟩, fun _ => rfl, fun c q _ _ => sI_o (by omega), fun _ _ => rfl, fun _ _ => rfl⟩
theorem ZC.gz {b zs : Nat} {z z' : Sh} {h h' : Hp} (Z : ZC b z) (G : Gz b zs z h z' h') (hb : b + 92 ≤ z.sz) : ZC b z' := by
  obtain ⟨z1, z2, z3, z4, z5⟩ := Z
  have e := G.2.1
  exact ⟨(e _ (by omega)).1.trans z1, (e _ (by omega)).2.trans z2, (e _ (by omega)).1.trans z3, (e _ (by omega)).1.trans z4, (e _ (by omega)).2.trans z5⟩
/-- what the reference may change while it reads -/
def FrT (b : Nat) (h h' : Hp) : Prop := (∀ a, h'.R a = h.R a) ∧ (∀ a, h'.J a = h.J a) ∧ (∀ a, a ≠ b + 72 → a ≠ b + 76 → h'.I a = h.I a) ∧ ∀ k, k < 6 ∨ 15 < k ∨ k = 8 → h'.I (b + 72) k = h.I (b + 72) k
theorem FrT.rf {b : Nat} {h : Hp} : FrT b h h := ⟨fun _ => rfl, fun _ => rfl, fun _ _ _ => rfl, fun _ _ => rfl⟩
theorem FrT.tr {b : Nat} {h h' h'' : Hp} (A : FrT b h h') (B : FrT b h' h'') : FrT b h h'' := ⟨fun a => (B.1 a).trans (A.1 a), fun a => (B.2.1 a).trans (A.2.1 a), fun a q1 q2 => (B.2.2.1 a q1 q2).trans (A.2.2.1 a q1 q2), fun k q => (B.2.2.2 k q).trans (A.2.2.2 k q)⟩
theorem FrR.t {b : Nat} {h h' : Hp} (E : FrR b h h') : FrT b h h' := ⟨E.1, E.2.1, E.2.2.1, fun k q => E.2.2.2.1 k (by omega) (by omega) (by omega) (by omega) (by omega) (by omega)⟩
theorem FrT.s76 {b k : Nat} {h : Hp} {v : Int32} : FrT b h (h.setI (b + 76) k v) := ⟨fun _ => rfl, fun _ => rfl, fun _ _ q => sI_o q, fun k q => by rw [sI_o (by omega)]⟩
theorem FrT.s72 {b k : Nat} {h : Hp} {v : Int32} (hk : ¬ (k < 6 ∨ 15 < k ∨ k = 8)) : FrT b h (h.setI (b + 72) k v) := ⟨fun _ => rfl, fun _ => rfl, fun _ q _ => sI_o q, fun j q => sI_ne (fun e => hk (e ▸ q))⟩
theorem RS.s76 {b N w k : Nat} {sv : Nat → Nat} {z : Sh} {tx : Nat → Nat} {T : Tk} {M : List Nat} {g : Hp} {v : Int32} (C : RS b sv z tx N w T M g) (hk : k < 557) : RS b sv z tx N w T M (g.setI (b + 76) k v) := by
  obtain ⟨⟨c1, c2, c3, c4⟩, d2, d3, d4, d5, d6, d7, d8, d9, d10, d11⟩ := C
  have e : (g.setI (b + 76) k v).I (b + 72) = g.I (b + 72) := sI_o (by omega)
  refine ⟨⟨c1, by rw [e]; exact c2, fun j hj => by rw [sI_o (show b + 75 ≠ b + 76 by omega)]; exact c3 j hj, c4.mv (fun a ha => sI_o (by omega)) (fun _ _ => rfl)⟩, d2, by rw [e]; exact d3, by rw [e]; exact d4, by rw [e]; exact d5, by rw [e]; exact d6, fun q => by rw [e]; exact d7 q, by rw [e]; exact d8, (sI_ne (by omega)).trans d9, d10, fun j hj => (sI_ne (by omega)).trans (d11 j hj)⟩
theorem RF.s76 {b fl pl k : Nat} {z : Sh} {g : Hp} {v : Int32} (C : RF b z fl pl g) : RF b z fl pl (g.setI (b + 76) k v) := ⟨C.1, by rw [sI_o (show b + 72 ≠ b + 76 by omega)]; exact C.2.1, by rw [sI_o (show b + 72 ≠ b + 76 by omega)]; exact C.2.2.1, C.2.2.2⟩
section
variable {n b N w zs t : Nat} {sv : Nat → Nat} {z : Sh} {tx : Nat → Nat} {T : Tk} {L M : List Nat} {h g : Hp} {yr tr P ca di li : Nat} {tal fe : Nat → Nat} {LW LG : List Nat}
/-! the end of a line -/
theorem endc_t (C : CS b sv z tx N w T L h) (H : CT b z t (yr, tr, P, ca, di, li, tal, fe, LW, LG) h) (hz : zs ≤ t) (Z : ZC b z) (hN : N ≤ 900) (hx : ∀ j, tx j < 256) (hn : 400000 ≤ n) (hk : T.2.2.1 = 30) : ∃ h', f_X6_endLine n z h (b + 2) = some (1, h') ∧ Gz b zs z h z h' ∧ CS b sv z tx N w (tkN tx N T.2.1) L h' ∧ CT b z t (yr, tr, P, ca, di, (li + 1), tal, fe, LW, LG) h' := by
  have H1 := H.s_li (x := li + 1)
  obtain ⟨⟨r1, r2, r3⟩, r4, ⟨r5, r6⟩, i0, i1, i2, i3, i4, i5, ip, l1, l2⟩ := id H
  have C1 : CS b sv z tx N w T L (h.setI t 5 (nI (li + 1))) := C.mv (by omega) (fun _ _ => ⟨rfl, rfl⟩) (fun _ => rfl) (fun a ha => sI_o (by omega)) (fun _ _ => rfl)
  obtain ⟨h', e1, e2, e3⟩ := take_t C1 Z hN hx hn (s := 14) (by decide) (by decide) hk
  refine ⟨h', ?_, (Gz.st hz).tr (Gz.fc e2), e3, H1.fc e2⟩
  unfold f_X6_endLine
  rw [if_pos Z.2.2.1, gR_ok Z.2.2.1 r1, bS, gI_ok r4.1, bS, pI_ok r4.1, bS, i5, nI_1, e1, bS]
  show (bz 1).bind _ = _
  rw [bz_ok (x := 1) (Or.inr rfl), bS]
theorem endc_f (C : CS b sv z tx N w T L h) (H : CT b z t (yr, tr, P, ca, di, li, tal, fe, LW, LG) h) (hz : zs ≤ t) (Z : ZC b z) (hN : N ≤ 900) (hx : ∀ j, tx j < 256) (hn : 400000 ≤ n) (hk : T.2.2.1 ≠ 30) : ∃ h', f_X6_endLine n z h (b + 2) = some (0, h') ∧ Gz b zs z h z h' ∧ CF b 2 (flt T.2.2.1 2) T.1 h' := by
  obtain ⟨⟨r1, r2, r3⟩, r4, ⟨r5, r6⟩, i0, i1, i2, i3, i4, i5, ip, l1, l2⟩ := id H
  have C1 : CS b sv z tx N w T L (h.setI t 5 (nI (li + 1))) := C.mv (by omega) (fun _ _ => ⟨rfl, rfl⟩) (fun _ => rfl) (fun a ha => sI_o (by omega)) (fun _ _ => rfl)
  obtain ⟨h', e1, e2, e3⟩ := take_f C1 Z hN hx hn (s := 14) (by decide) (by decide) hk
  refine ⟨h', ?_, (Gz.st hz).tr (Gz.fc e2), e3.wk⟩
  unfold f_X6_endLine
  rw [if_pos Z.2.2.1, gR_ok Z.2.2.1 r1, bS, gI_ok r4.1, bS, pI_ok r4.1, bS, i5, nI_1, e1, bS]
  show (bz 0).bind _ = _
  rw [bz_ok (x := 0) (Or.inl rfl), bS]
theorem endr_14 (H : LayR z g.2.2 (b + 72)) : f_X12_ends_14 n z g (b + 72) = some (g.setI (b + 76) 0 (g.I (b + 76) 0 + 1)) := by
  unfold f_X12_ends_14
  rw [gR_ok (km_0 H) (rm_4 H), bS, show ldI z g (b + 76) 0 = _ from lm_4 (j := 0) H (by decide), bS, show stI z g (b + 76) 0 _ = _ from sm_4 (j := 0) H (by decide), bS]
theorem endr_t (C : RS b sv z tx N w T M g) (H : RT b M (yr, tr, P, ca, di, li, tal, fe, LW, LG) g) (hP : P ≤ 6) (hN : N ≤ 900) (hx : ∀ j, tx j < 256) (hn : 400000 ≤ n) (hk : T.2.2.1 = 30) : ∃ g', f_X12_ends n z g (b + 72) = some g' ∧ FrT b g g' ∧ RS b sv z tx N w (tkN tx N T.2.1) M g' ∧ RT b M (yr, tr, P, ca, di, (li + 1), tal, fe, LW, LG) g' := by
  obtain ⟨g1, e1, e2, e3⟩ := eats_t C hN hx hn (k := 30) (by decide) hk
  have H1 := H.fr hP e2
  have H2 := H1.s_li (x := li + 1)
  have i0 : g1.I (b + 76) 0 = nI li := H1.1
  refine ⟨_, ?_, e2.t.tr FrT.s76, e3.s76 (by decide), H2⟩
  unfold f_X12_ends
  rw [if_pos C.K, show f_X12_eats n z g (b + 72) 30 = _ from e1, bS]
  show (if (1 : Int32) = 0 then _ else _) = _
  rw [if_neg (by decide), endr_14 e3.1.1, i0, nI_1]
theorem endr_F {fl pl : Nat} (C : RF b z fl pl g) : ∃ g', f_X12_ends n z g (b + 72) = some g' ∧ FrT b g g' ∧ RF b z fl pl g' := by
  refine ⟨g.setI (b + 76) 0 (g.I (b + 76) 0 + 1), ?_, FrT.s76, C.s76⟩
  unfold f_X12_ends
  rw [if_pos C.K, eats_F C, bS]
  show (if (0 : Int32) = 0 then _ else _) = _
  rw [if_pos rfl, fails_F C, bS, endr_14 C.1]
theorem endr_f (C : RS b sv z tx N w T M g) (hk : T.2.2.1 ≠ 30) : ∃ g', f_X12_ends n z g (b + 72) = some g' ∧ FrT b g g' ∧ RF b z (flt T.2.2.1 2) T.1 g' := by
  obtain ⟨g1, r1, r2, r3⟩ := fails_r C (v := 2) (by decide) (by decide)
  have r1 : f_X12_fails z g (b + 72) 2 = some g1 := r1
  refine ⟨g1.setI (b + 76) 0 (g1.I (b + 76) 0 + 1), ?_, r2.t.tr FrT.s76, r3.s76⟩
  unfold f_X12_ends
  rw [if_pos C.K, show f_X12_eats n z g (b + 72) 30 = _ from eats_f C (k := 30) (by decide) hk, bS]
  show (if (0 : Int32) = 0 then _ else _) = _
  rw [if_pos rfl, r1, bS, endr_14 r3.1]
end
