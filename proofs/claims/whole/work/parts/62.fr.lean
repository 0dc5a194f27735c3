/-! ===== what stays ===== -/
def kW (b a : Nat) : Prop := a < b ∨ a = b + 8 ∨ (b + 44 ≤ a ∧ a ≤ b + 58) ∨ b + 92 ≤ a
def Fr (b : Nat) (h h' : Hp) : Prop := ∀ a, kW b a → h'.I a = h.I a ∧ h'.J a = h.J a ∧ h'.R a = h.R a
theorem LawX.fr {b : Nat} {z : Sh} {h h' : Hp} {a : Nat} {L : List Nat} (F : Fr b h h') (H : LawX b z h a L) : LawX b z h' a L := by
  obtain ⟨h1, h2, h3, h4⟩ := H
  refine ⟨h1, h2, h3, fun j hj => ?_⟩
  rw [(F a (by unfold kW; omega)).1]
  exact h4 j hj
theorem TownX.k {b : Nat} {z : Sh} {h : Hp} {t : Nat} {τ : TT} (H : TownX b z h t τ) : kW b t := by
  have := H.1
  unfold kW
  omega
theorem TownX.fr {b : Nat} {z : Sh} {h h' : Hp} {t : Nat} {τ : TT} (F : Fr b h h') (H : TownX b z h t τ) : TownX b z h' t τ := by
  obtain ⟨e1, -, e3⟩ := F t H.k
  obtain ⟨h1, h2, h3, h4, h5, ⟨a, h6, h7⟩, a', h8, h9⟩ := H
  refine ⟨h1, h2, ?_, ?_, ?_, ⟨a, ?_, h7.fr F⟩, a', ?_, h9.fr F⟩
  · rw [e1]; exact h3
  · rw [e1]; exact h4
  · rw [e1]; exact h5
  · rw [e3]; exact h6
  · rw [e3]; exact h8
theorem WaysI.fr {b c : Nat} {z : Sh} {h h' : Hp} (F : Fr b h h') (H : WaysI b c z h) : WaysI b c z h' := by
  obtain ⟨wt, ω, tal, md, st, ts, h1, h2, h3, h4, h5, h6, h7, h8, h9, h10, h11, h12, h13, h14, h15, h16⟩ := H
  have f44 := F (b + 44) (by unfold kW; omega)
  have f45 := F (b + 45) (by unfold kW; omega)
  have f46 := F (b + 46) (by unfold kW; omega)
  have f52 := F (b + 52) (by unfold kW; omega)
  have f57 := F (b + 57) (by unfold kW; omega)
  have f55 := F (b + 55) (by unfold kW; omega)
  have f58 := F (b + 58) (by unfold kW; omega)
  refine ⟨wt, ω, tal, md, st, ts, ?_, h2.fr F, h3, h4, ?_, ?_, ?_, ?_, h9, h10, h11, ?_, ?_, ?_, ?_, ?_⟩
  · rw [f44.2.2]; exact h1
  · rw [f44.1]; exact h5
  · rw [f44.1]; exact h6
  · rw [f44.1]; exact h7
  · rw [f44.1]; exact h8
  · rw [f46.1]; exact h12
  · rw [f52.2.1]; exact h13
  · rw [f57.2.1]; exact h14
  · intro k hk mo hm
    rw [f45.2.2] at hm
    obtain ⟨q1, q2, q3, q4, q5, q6, q7, q8, q9⟩ := h15 k hk mo hm
    have f1 := F mo (by unfold kW; omega)
    have f2 := F (mo + 1) (by unfold kW; omega)
    rw [f45.2.2, f55.2.2, f1.2.2, f2.2.1]
    exact ⟨q1, q2, q3, q4, q5, q6, q7, q8, q9⟩
  · intro mo hm
    rw [f55.2.2] at hm
    obtain ⟨q1, q2, q3, q4, q5, q6, q7, q8⟩ := h16 mo hm
    have f1 := F mo (by unfold kW; omega)
    have f2 := F (mo + 1) (by unfold kW; omega)
    rw [f58.1, f1.2.2, f2.2.1]
    exact ⟨q1, q2, q3, q4, q5, q6, q7, q8⟩
theorem WaysI.up {b c : Nat} {z : Sh} {h : Hp} (H : WaysI b c z h) : WaysI b (c + 1) z h := by
  obtain ⟨wt, ω, tal, md, st, ts, h1, h2, h3, h4, h5, h6, h7, h8, h9, h10, h11, h12⟩ := H
  exact ⟨wt, ω, tal, md, st, ts, h1, h2, h3, h4, h5, h6, h7, h8, by omega, h10, by omega, h12⟩
theorem RoomI.fr {z0 : Sh} {b c : Nat} {z : Sh} {h h' : Hp} (F : Fr b h h') (H : RoomI z0 b c z h) : RoomI z0 b c z h' := by
  unfold RoomI at H ⊢
  rw [(F (b + 45) (by unfold kW; omega)).2.2, (F (b + 55) (by unfold kW; omega)).2.2]
  exact H
theorem RoomI.up {z0 : Sh} {b c : Nat} {z : Sh} {h : Hp} (H : RoomI z0 b c z h) : RoomI z0 b (c + 1) z h := by
  obtain ⟨h1, h2, h3, h4⟩ := H
  exact ⟨h1, by omega, h3, by omega⟩
theorem Inv.up {z0 : Sh} {h0 : Hp} {b c : Nat} {z : Sh} {h : Hp} (I : Inv z0 h0 b c z h) : Inv z0 h0 b (c + 1) z h := by
  obtain ⟨h1, h2, h3, h4, h5, h6, h7, h8, h9⟩ := I
  exact ⟨h1, h2, h3, h4, h5, h6, h7, h8.up, h9.up⟩
theorem BaseI.fr {z0 : Sh} {h0 : Hp} {b : Nat} {z : Sh} {h h' : Hp} (F : Fr b h h') (H : BaseI z0 h0 b z h) : BaseI z0 h0 b z h' := by
  refine ⟨fun a ha => ?_, H.2⟩
  have f := F a (Or.inl ha)
  rw [f.1, f.2.1, f.2.2]
  exact H.1 a ha
theorem NowI.fr {b : Nat} {z : Sh} {h h' : Hp} (F : Fr b h h') (hR : h'.R b 3 = h.R b 3) (h73 : h'.I (b + 73) = h.I (b + 73)) (hp : ∀ k, 11 ≤ k → k < 37 → k ≠ 13 → k ≠ 14 → h'.I (b + k) = h.I (b + k)) (H : NowI b z h) : NowI b z h' := by
  obtain ⟨t, τ, P, h1, h2, h3, h4, h5, h6, h7, h8, h9⟩ := H
  refine ⟨t, τ, P, hR.trans h1, h2.fr F, h3, ?_, ?_, ?_, h7, ?_, ?_⟩
  · rw [h73]; exact h4
  · rw [h73, (F t h2.k).1]; exact h5
  · rw [h73]; exact h6
  · rw [h73, hp 11 (by omega) (by omega) (by omega) (by omega), hp 12 (by omega) (by omega) (by omega) (by omega)]; exact h8
  · rw [h73, hp 15 (by omega) (by omega) (by omega) (by omega)]
    obtain ⟨nx, sz, k1, k2, k3, k4, k5, k6⟩ := h9
    refine ⟨nx, sz, k1, k2, k3, k4, k5, fun i hi => ?_⟩
    have e := k6 i hi
    have m1 : (nx + 10 - sz + i) % 10 < 10 := Nat.mod_lt _ (by omega)
    dsimp only at e ⊢
    rw [Nat.add_assoc b, Nat.add_assoc b] at e ⊢
    rw [hp (17 + 2 * ((nx + 10 - sz + i) % 10)) (by omega) (by omega) (by omega) (by omega), hp (17 + (2 * ((nx + 10 - sz + i) % 10) + 1)) (by omega) (by omega) (by omega) (by omega)]
    exact e
theorem ImgI.fr {b : Nat} {z : Sh} {h h' : Hp} {i : Nat} (F : Fr b h h') (hi : i < 2) (hR : h'.R (b + 37) i = h.R (b + 37) i) (h74 : h'.I (b + 74) i = h.I (b + 74) i) (h73 : ∀ k, 1458 ≤ k → h'.I (b + 73) k = h.I (b + 73) k) (hp : ∀ k, 60 ≤ k → k < 64 → h'.I (b + k) = h.I (b + k)) (H : ImgI b z h i) : ImgI b z h' i := by
  have e : img (h'.I (b + 73)) i = img (h.I (b + 73)) i := by
    funext k
    unfold img
    exact h73 _ (by omega)
  unfold ImgI
  rw [e, h74, hR]
  rcases H with H | ⟨h1, t, τ, P, h2, h3, h4, h5, h6, h7, h8, h9⟩
  · exact Or.inl H
  · refine Or.inr ⟨h1, t, τ, P, h2, h3.fr F, h4, h5, ?_, h7, h8, ?_⟩
    · rw [(F t h3.k).1]; exact h6
    · rw [show b + 60 + 2 * i = b + (60 + 2 * i) by omega, show b + 61 + 2 * i = b + (61 + 2 * i) by omega] at h9 ⊢
      rw [hp (60 + 2 * i) (by omega) (by omega), hp (61 + 2 * i) (by omega) (by omega)]
      exact h9
theorem TrayI.fr {b : Nat} {h h' : Hp} (hI : ∀ k, 64 ≤ k → k < 72 → h'.I (b + k) = h.I (b + k)) (hJ : ∀ k, 64 ≤ k → k < 72 → h'.J (b + k) = h.J (b + k)) (h1 : h'.I (b + 89) = h.I (b + 89)) (h2 : h'.I (b + 90) = h.I (b + 90)) (h3 : h'.J (b + 91) = h.J (b + 91)) (H : TrayI b h) : TrayI b h' := by
  intro i hi
  have e := H i hi
  rw [Nat.add_assoc b, Nat.add_assoc b] at e ⊢
  rw [h1, h2, h3, hI (64 + 2 * i) (by omega) (by omega), hJ (65 + 2 * i) (by omega) (by omega)]
  exact e
theorem TapeI.fr {b : Nat} {h h' : Hp} (h1 : h'.I b 1 = h.I b 1) (h2 : h'.I (b + 1) = h.I (b + 1)) (h3 : h'.I (b + 2) 0 = h.I (b + 2) 0) (h4 : h'.I (b + 2) 1 = h.I (b + 2) 1) (h5 : h'.I (b + 72) 5 = h.I (b + 72) 5) (h6 : h'.I (b + 72) 13 = h.I (b + 72) 13) (h7 : h'.I (b + 72) 14 = h.I (b + 72) 14) (h8 : h'.I (b + 75) = h.I (b + 75)) (H : TapeI b h) : TapeI b h' := by
  unfold TapeI
  rw [h1, h2, h3, h4, h5, h6, h7, h8]
  exact H
/-! rows of no consequence -/
def scrA (k : Nat) : Bool := k == 7 || k == 13 || k == 14 || k == 41 || k == 42 || k == 43 || k == 59 || k == 72 || (Nat.ble 76 k && Nat.ble k 88)
def Sc (b : Nat) (h h' : Hp) : Prop := h'.2.2 = h.2.2 ∧ (∀ a, (∀ k, scrA k = true → a ≠ b + k) → h'.I a = h.I a ∧ h'.J a = h.J a) ∧ h'.I (b + 72) 5 = h.I (b + 72) 5 ∧ h'.I (b + 72) 13 = h.I (b + 72) 13 ∧ h'.I (b + 72) 14 = h.I (b + 72) 14
theorem Sc.refl (b : Nat) (h : Hp) : Sc b h h := ⟨rfl, fun _ _ => ⟨rfl, rfl⟩, rfl, rfl, rfl⟩
theorem Sc.trans {b : Nat} {h h' h'' : Hp} (H : Sc b h h') (G : Sc b h' h'') : Sc b h h'' := ⟨G.1.trans H.1, fun a ha => ⟨(G.2.1 a ha).1.trans (H.2.1 a ha).1, (G.2.1 a ha).2.trans (H.2.1 a ha).2⟩, G.2.2.1.trans H.2.2.1, G.2.2.2.1.trans H.2.2.2.1, G.2.2.2.2.trans H.2.2.2.2⟩
theorem Sc.row (b : Nat) (h : Hp) (k : Nat) (f : Nat → Int32) (hk : scrA k = true) (h72 : k ≠ 72) : Sc b h (h.rowI (b + k) f) := by
  have e : (h.rowI (b + k) f).I (b + 72) = h.I (b + 72) := rowI_ne h _ (by omega)
  refine ⟨rfl, fun a ha => ⟨rowI_ne h _ (ha k hk), rfl⟩, ?_, ?_, ?_⟩ <;> rw [e]
theorem Sc.rowJ (b : Nat) (h : Hp) (k : Nat) (f : Nat → Int64) (hk : scrA k = true) : Sc b h (h.rowJ (b + k) f) := by
  refine ⟨rfl, fun a ha => ⟨rfl, rowJ_ne h _ (ha k hk)⟩, rfl, rfl, rfl⟩
theorem Sc.set (b : Nat) (h : Hp) (k : Nat) (v : Int32) (h1 : k ≠ 5) (h2 : k ≠ 13) (h3 : k ≠ 14) : Sc b h (h.setI (b + 72) k v) := by
  refine ⟨rfl, fun a ha => ⟨rowI_ne h _ (ha 72 rfl), rfl⟩, ?_, ?_, ?_⟩
  · rw [setI_I, if_pos rfl, upd, if_neg (by omega)]
  · rw [setI_I, if_pos rfl, upd, if_neg (by omega)]
  · rw [setI_I, if_pos rfl, upd, if_neg (by omega)]
theorem Sc.R {b : Nat} {h h' : Hp} (H : Sc b h h') (a : Nat) : h'.R a = h.R a := by
  show h'.2.2 a = h.2.2 a
  rw [H.1]
theorem Sc.I {b : Nat} {h h' : Hp} (H : Sc b h h') {k : Nat} (hk : scrA k = false) : h'.I (b + k) = h.I (b + k) := (H.2.1 (b + k) (fun j hj e => by
  have : k = j := by omega
  subst this
  rw [hk] at hj
  cases hj)).1
theorem Sc.J {b : Nat} {h h' : Hp} (H : Sc b h h') {k : Nat} (hk : scrA k = false) : h'.J (b + k) = h.J (b + k) := (H.2.1 (b + k) (fun j hj e => by
  have : k = j := by omega
  subst this
  rw [hk] at hj
  cases hj)).2
theorem scr_out {k : Nat} (h : k = 8 ∨ (44 ≤ k ∧ k ≤ 58) ∨ 92 ≤ k) : scrA k = false := by
  cases e : scrA k with
  | false => rfl
  | true =>
    simp only [scrA, Bool.or_eq_true, beq_iff_eq, Bool.and_eq_true, Nat.ble_eq] at e
    omega
theorem Sc.fr {b : Nat} {h h' : Hp} (H : Sc b h h') : Fr b h h' := by
  intro a ha
  have e : ∀ k, scrA k = true → a ≠ b + k := fun k hk q => by
    subst q
    have : scrA k = false := scr_out (by unfold kW at ha; omega)
    rw [this] at hk
    cases hk
  exact ⟨(H.2.1 a e).1, (H.2.1 a e).2, H.R a⟩
theorem scr_now {k : Nat} (h1 : 11 ≤ k) (h2 : k < 37) (h3 : k ≠ 13) (h4 : k ≠ 14) : scrA k = false := by
  cases e : scrA k with
  | false => rfl
  | true =>
    simp only [scrA, Bool.or_eq_true, beq_iff_eq, Bool.and_eq_true, Nat.ble_eq] at e
    omega
theorem scr_img {k : Nat} (h1 : 60 ≤ k) (h2 : k < 72) : scrA k = false := by
  cases e : scrA k with
  | false => rfl
  | true =>
    simp only [scrA, Bool.or_eq_true, beq_iff_eq, Bool.and_eq_true, Nat.ble_eq] at e
    omega
theorem Sc.now {b : Nat} {z : Sh} {h h' : Hp} (S : Sc b h h') (H : NowI b z h) : NowI b z h' := H.fr S.fr (by rw [S.R]) (S.I rfl) (fun k h1 h2 h3 h4 => S.I (scr_now h1 h2 h3 h4))
theorem Sc.img {b : Nat} {z : Sh} {h h' : Hp} {i : Nat} (S : Sc b h h') (hi : i < 2) (H : ImgI b z h i) : ImgI b z h' i := H.fr S.fr hi (by rw [S.R]) (by rw [S.I (k := 74) rfl]) (fun k _ => by rw [S.I (k := 73) rfl]) (fun k h1 h2 => S.I (scr_img h1 (by omega)))
theorem Sc.tray {b : Nat} {h h' : Hp} (S : Sc b h h') (H : TrayI b h) : TrayI b h' := H.fr (fun k h1 h2 => S.I (scr_img (by omega) h2)) (fun k h1 h2 => S.J (scr_img (by omega) h2)) (S.I rfl) (S.I rfl) (S.J rfl)
theorem Sc.tape {b : Nat} {h h' : Hp} (S : Sc b h h') (H : TapeI b h) : TapeI b h' := H.fr (congrFun (S.I (k := 0) rfl) 1) (S.I rfl) (by rw [S.I (k := 2) rfl]) (by rw [S.I (k := 2) rfl]) S.2.2.1 S.2.2.2.1 S.2.2.2.2 (S.I rfl)
theorem Inv.sc {z0 : Sh} {h0 : Hp} {b c : Nat} {z : Sh} {h h' : Hp} (I : Inv z0 h0 b c z h) (S : Sc b h h') : Inv z0 h0 b c z h' := by
  obtain ⟨h1, h2, h3, h4, ⟨h5, h5'⟩, h6, h7, h8, h9⟩ := I
  exact ⟨h1.fr S.fr, by rw [S.1]; exact h2, by rw [S.1]; exact h3, S.now h4, ⟨S.img (by omega) h5, S.img (by omega) h5'⟩, S.tray h6, S.tape h7, h8.fr S.fr, h9.fr S.fr⟩
