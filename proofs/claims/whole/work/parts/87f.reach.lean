/-! ===== ways to a stand, and what they are worth ===== -/
def StP (τ : TT) (tal : Nat) (md : Bool) (s1 j s : Nat) (w : Int) : Prop := (j < opn τ s1 ∧ s = lvN s1 j ∧ w = wV τ tal s1 j) ∨ (j = 9 ∧ (md = true ∧ sL s1 = 1) ∧ s = drN τ tal s1 ∧ w = 0)
def Pt (τ : TT) (tal : Nat) (md : Bool) (s0 : Nat) : Nat → Nat → Int → Prop
  | 0, s, v => s = s0 ∧ v = 0
  | k + 1, s, v => ∃ s1 v1 j w, Pt τ tal md s0 k s1 v1 ∧ StP τ tal md s1 j s w ∧ v = v1 + w
def PS (τ : TT) (tal : Nat) (md : Bool) (s0 : Nat) (Q : Nat → Nat → Prop) (k s : Nat) (v : Int) : Prop := ∃ s1 v1 j w, Pt τ tal md s0 k s1 v1 ∧ Q s1 j ∧ StP τ tal md s1 j s w ∧ v = v1 + w
def MXP (X : Int → Prop) (v : Int) : Prop := X v ∧ ∀ v', X v' → v' ≤ v
section
variable {τ : TT} {tal : Nat} {md : Bool} {s0 : Nat}
theorem opn4 (hτ : TownOK τ) (s : Nat) : opn τ s ≤ 4 := by
  have := hτ.2.1
  unfold opn
  split <;> omega
theorem StP_ok (hτ : TownOK τ) {s1 j s : Nat} {w : Int} (hs : SV τ s1) (H : StP τ tal md s1 j s w) : SV τ s ∧ rk τ s < rk τ s1 ∧ enc s1 < enc s ∧ (-9 ≤ w ∧ w ≤ 9) ∧ j < 10 ∧ ((sL s = sL s1 ∧ sO s = sO s1 ∧ sY s = sY s1 + 1) ∨ (sL s1 = 1 ∧ sL s = 2 ∧ sO s = sY s1 ∧ sY s = gV τ tal (sY s1))) := by
  obtain ⟨a1, a2, a3, a4⟩ := e_bd hτ hs
  have hY := hτ.1
  rcases H with ⟨h1, rfl, rfl⟩ | ⟨h1, h2, rfl, rfl⟩
  · obtain ⟨q1, q2⟩ := opn_lt h1
    obtain ⟨l1, l2, l3, l4, -⟩ := lv_SV hτ hs q2 q1
    have r1 := rk_lv hτ hs q2 q1
    have w1 := wV_bd τ tal s1 j
    have o4 := opn4 hτ s1
    refine ⟨l1, by omega, ?_, w1, by omega, Or.inl ⟨l2, l3, l4⟩⟩
    obtain ⟨c1, c2, c3, c4⟩ := e_bd hτ l1
    rw [enc_eq, enc_eq, l4]
    have : eL (lvN s1 j) = eL s1 := by unfold eL; rw [l2, l3]
    rw [this]
    omega
  · obtain ⟨l1, l2, l3, l4, -⟩ := dr_SV (tal := tal) hτ hs
    have r1 := rk_dr (tal := tal) hτ hs h2.2
    refine ⟨l1, r1, ?_, by omega, by omega, Or.inr ⟨h2.2, l2, l3, l4⟩⟩
    obtain ⟨c1, c2, c3, c4⟩ := e_bd hτ l1
    rw [enc_eq, enc_eq]
    have e1 : eL s1 = 0 := by unfold eL; rw [if_neg (by omega)]
    have e2 : eL (drN τ tal s1) = 1 + sO (drN τ tal s1) := by unfold eL; rw [if_pos l2]
    rw [e1, e2]
    omega
theorem StP_det (hτ : TownOK τ) {s1 j s s' : Nat} {w w' : Int} (H : StP τ tal md s1 j s w) (H' : StP τ tal md s1 j s' w') : s' = s ∧ w' = w := by
  have o4 := opn4 hτ s1
  rcases H with ⟨h1, rfl, rfl⟩ | ⟨h1, h2, rfl, rfl⟩ <;> rcases H' with ⟨g1, rfl, rfl⟩ | ⟨g1, g2, rfl, rfl⟩
  · exact ⟨rfl, rfl⟩
  · omega
  · omega
  · exact ⟨rfl, rfl⟩
theorem Pt_ok (hτ : TownOK τ) (h0 : SV τ s0) : ∀ {k s : Nat} {v : Int}, Pt τ tal md s0 k s v → SV τ s ∧ rk τ s + k ≤ rk τ s0 ∧ (-9 * (k : Int) ≤ v ∧ v ≤ 9 * (k : Int)) ∧ ((sL s = sL s0 ∧ sY s = sY s0 + k) ∨ (sL s0 = 1 ∧ sL s = 2 ∧ k + gV τ tal (sO s) + sY s0 = sO s + 1 + sY s)) := by
  intro k
  induction k with
  | zero =>
    intro s v H
    obtain ⟨rfl, rfl⟩ := H
    exact ⟨h0, by omega, by omega, Or.inl ⟨rfl, rfl⟩⟩
  | succ k ih =>
    intro s v H
    obtain ⟨s1, v1, j, w, H1, H2, rfl⟩ := H
    obtain ⟨i1, i2, i3, i4⟩ := ih H1
    obtain ⟨p1, p2, p3, p4, p5, p6⟩ := StP_ok hτ i1 H2
    refine ⟨p1, by omega, by omega, ?_⟩
    have l1 := i1.2.1
    rcases p6 with ⟨q1, q2, q3⟩ | ⟨q1, q2, q3, q4⟩
    · rcases i4 with ⟨r1, r2⟩ | ⟨r1, r2, r3⟩
      · exact Or.inl ⟨by omega, by omega⟩
      · refine Or.inr ⟨r1, by omega, ?_⟩
        rw [q2]
        omega
    · rcases i4 with ⟨r1, r2⟩ | ⟨r1, r2, r3⟩
      · refine Or.inr ⟨by omega, q2, ?_⟩
        rw [q3]
        omega
      · omega
theorem Pt_uniq (hτ : TownOK τ) (h0 : SV τ s0) {k k' s : Nat} {v v' : Int} (H : Pt τ tal md s0 k s v) (H' : Pt τ tal md s0 k' s v') : k' = k := by
  obtain ⟨-, -, -, i4⟩ := Pt_ok hτ h0 H
  obtain ⟨-, -, -, j4⟩ := Pt_ok hτ h0 H'
  rcases i4 with ⟨r1, r2⟩ | ⟨r1, r2, r3⟩ <;> rcases j4 with ⟨u1, u2⟩ | ⟨u1, u2, u3⟩ <;> omega
theorem PS_pt {Q : Nat → Nat → Prop} {k s : Nat} {v : Int} (H : PS τ tal md s0 Q k s v) : Pt τ tal md s0 (k + 1) s v := by
  obtain ⟨s1, v1, j, w, h1, -, h2, h3⟩ := H
  exact ⟨s1, v1, j, w, h1, h2, h3⟩
/-- one more step is looked at -/
theorem PS_up (hτ : TownOK τ) {Q Q' : Nat → Nat → Prop} {e t s2 : Nat} {w2 : Int} (h1 : ∀ s1 j, Q s1 j → Q' s1 j) (h2 : ∀ s1 j s' w, SV τ s1 → StP τ tal md s1 j s' w → Q' s1 j → Q s1 j ∨ (s1 = e ∧ j = t)) (hs0 : SV τ s0) (h3 : Q' e t) (hst : StP τ tal md e t s2 w2) {k s : Nat} {v : Int} : PS τ tal md s0 Q' k s v ↔ PS τ tal md s0 Q k s v ∨ (s = s2 ∧ ∃ v1, Pt τ tal md s0 k e v1 ∧ v = v1 + w2) := by
  constructor
  · rintro ⟨s1, v1, j, w, g1, g2, g3, g4⟩
    rcases h2 s1 j s w (Pt_ok hτ hs0 g1).1 g3 g2 with q | ⟨rfl, rfl⟩
    · exact Or.inl ⟨s1, v1, j, w, g1, q, g3, g4⟩
    · obtain ⟨e1, e2⟩ := StP_det hτ hst g3
      exact Or.inr ⟨e1, v1, g1, by rw [g4, e2]⟩
  · rintro (⟨s1, v1, j, w, g1, g2, g3, g4⟩ | ⟨rfl, v1, g1, g2⟩)
    · exact ⟨s1, v1, j, w, g1, h1 _ _ g2, g3, g4⟩
    · exact ⟨e, v1, t, w2, g1, h3, hst, g2⟩
theorem PS_eq {Q Q' : Nat → Nat → Prop} {k s : Nat} {v : Int} (h : ∀ s1 v1 j s' w, Pt τ tal md s0 k s1 v1 → StP τ tal md s1 j s' w → (Q s1 j ↔ Q' s1 j)) : PS τ tal md s0 Q k s v ↔ PS τ tal md s0 Q' k s v := by
  constructor
  · rintro ⟨s1, v1, j, w, g1, g2, g3, g4⟩
    exact ⟨s1, v1, j, w, g1, (h _ _ _ _ _ g1 g3).mp g2, g3, g4⟩
  · rintro ⟨s1, v1, j, w, g1, g2, g3, g4⟩
    exact ⟨s1, v1, j, w, g1, (h _ _ _ _ _ g1 g3).mpr g2, g3, g4⟩
theorem mx_new {X Y S : Int → Prop} {m w : Int} (hY : ∀ v, Y v ↔ X v ∨ ∃ v1, S v1 ∧ v = v1 + w) (hS : MXP S m) (hX : ∀ v, ¬ X v) : MXP Y (m + w) := by
  refine ⟨(hY _).mpr (Or.inr ⟨m, hS.1, rfl⟩), fun v' h => ?_⟩
  rcases (hY _).mp h with q | ⟨v1, q1, q2⟩
  · exact absurd q (hX _)
  · have := hS.2 _ q1
    omega
theorem mx_up {X Y S : Int → Prop} {m w x : Int} (hY : ∀ v, Y v ↔ X v ∨ ∃ v1, S v1 ∧ v = v1 + w) (hS : MXP S m) (hX : MXP X x) : (m + w ≤ x → MXP Y x) ∧ (x ≤ m + w → MXP Y (m + w)) := by
  refine ⟨fun q => ⟨(hY _).mpr (Or.inl hX.1), fun v' h => ?_⟩, fun q => ⟨(hY _).mpr (Or.inr ⟨m, hS.1, rfl⟩), fun v' h => ?_⟩⟩
  · rcases (hY _).mp h with q1 | ⟨v1, q1, q2⟩
    · exact hX.2 _ q1
    · have := hS.2 _ q1
      omega
  · rcases (hY _).mp h with q1 | ⟨v1, q1, q2⟩
    · have := hX.2 _ q1
      omega
    · have := hS.2 _ q1
      omega
theorem MXP.eq {X Y : Int → Prop} (h : ∀ v, X v ↔ Y v) {v : Int} (H : MXP X v) : MXP Y v := ⟨(h v).mp H.1, fun v' q => H.2 v' ((h v').mpr q)⟩
/-- the fewest doings that are worth so much -/
def Sn (τ : TT) (tal : Nat) (md : Bool) (s0 : Nat) (W : Int) (r : Int) : Prop := (r = -1 ∧ ∀ k s v, Pt τ tal md s0 k s v → v < W) ∨ ∃ k : Nat, r = k ∧ (∃ s v, Pt τ tal md s0 k s v ∧ W ≤ v) ∧ ∀ k' s v, k' < k → Pt τ tal md s0 k' s v → v < W
theorem Sn_uniq {W r r' : Int} (H : Sn τ tal md s0 W r) (H' : Sn τ tal md s0 W r') : r' = r := by
  rcases H with ⟨h1, h2⟩ | ⟨k, h1, ⟨s, v, h2, h3⟩, h4⟩ <;> rcases H' with ⟨g1, g2⟩ | ⟨k', g1, ⟨s', v', g2, g3⟩, g4⟩
  · omega
  · have := h2 _ _ _ g2
    omega
  · have := g2 _ _ _ h2
    omega
  · rcases Nat.lt_trichotomy k k' with q | q | q
    · have := g4 _ _ _ q h2
      omega
    · omega
    · have := h4 _ _ _ q g2
      omega
end
/-! ===== the class ===== -/
section
variable {n : Nat} {z0 : Sh} {b c : Nat} {wt : Nat} {ω : TT} {tal : Nat} {md : Bool} {st ts : Nat} {s0 : Nat}
theorem WayD.w53 {z : Sh} {h : Hp} (W : WayD z0 b c z h wt ω tal md st ts) {h' : Hp} (hR : h'.2.2 = h.2.2) (hJ : ∀ a, h'.J a = h.J a) (hI : ∀ a, a ≠ b + 53 → a ≠ b + 54 → h'.I a = h.I a) : WayD z0 b c z h' wt ω tal md st ts ∧ Ex b z h z h' := by
  obtain ⟨⟨HX, HR, w3, w4, w5, w6, w7⟩, ⟨w8, w9, w10, w11⟩, ⟨w12, w13, w14, w15⟩, w16, ⟨w17, w18⟩, w19, w20⟩ := W
  have hb : b + 92 ≤ z.sz := HR.1
  have hRa : ∀ a, h'.R a = h.R a := fun a => by show h'.2.2 a = h.2.2 a; rw [hR]
  have E : Ex b z h z h' := ⟨⟨Nat.le_refl _, Nat.le_refl _⟩, fun _ _ => ⟨rfl, rfl⟩, fun _ => rfl, fun a _ _ _ _ _ k5 k6 _ => hI a k5 k6, fun a _ _ _ => hJ a, fun a _ _ _ _ => hRa a⟩
  have i44 : h'.I (b + 44) = h.I (b + 44) := hI _ (by omega) (by omega)
  refine ⟨⟨⟨by rw [hR]; exact HX, by unfold RoomI; rw [hRa, hRa]; exact HR, w3, w4, w5, w6, w7⟩, ⟨by rw [hRa]; exact w8, (w9.ex hb E).1, w10, w11⟩, ⟨by rw [i44]; exact w12, by rw [i44]; exact w13, by rw [i44]; exact w14, by rw [i44]; exact w15⟩, by rw [hI _ (by omega) (by omega)]; exact w16, ⟨by rw [hJ]; exact w17, by rw [hJ]; exact w18⟩, ?_, ?_⟩, E⟩
  · intro k hk mo hm
    rw [hRa] at hm
    obtain ⟨m1, m2, m3, m4, m5, m6, m7, m8, m9⟩ := w19 k hk mo hm
    exact ⟨m1, m2, m3, by rw [hRa]; exact m4, m5, m6, by rw [hJ]; exact m7, by rw [hRa]; exact m8, by rw [hRa]; exact m9⟩
  · intro mo hm
    rw [hRa] at hm
    obtain ⟨m1, m2, m3, m4, m5, m6, m7, m8⟩ := w20 mo hm
    exact ⟨m1, m2, m3, by rw [hRa]; exact m4, m5, m6, by rw [hI _ (by omega) (by omega)]; exact m7, by rw [hJ]; exact m8⟩
def PC (τ : TT) (tal : Nat) (md : Bool) (s0 : Nat) (Q : Nat → Nat → Prop) (k s : Nat) (v : Int) : Prop := (k = 0 ∧ s = s0 ∧ v = 0) ∨ ∃ k', k = k' + 1 ∧ PS τ tal md s0 Q k' s v
theorem PC_pt {τ : TT} {Q : Nat → Nat → Prop} {k s : Nat} {v : Int} (H : PC τ tal md s0 Q k s v) : Pt τ tal md s0 k s v := by
  rcases H with ⟨rfl, rfl, rfl⟩ | ⟨k', rfl, h⟩
  · exact ⟨rfl, rfl⟩
  · exact PS_pt h
/-- what the rows hold at a number -/
def RI (τ : TT) (tal : Nat) (md : Bool) (s0 : Nat) (Q : Nat → Nat → Prop) (b : Nat) (h : Hp) (e : Nat) : Prop := (h.I (b + 53) e = iI (-1000000) ∧ ∀ s, SV τ s → enc s = e → ∀ k v, ¬ PC τ tal md s0 Q k s v) ∨ ∃ s k v, SV τ s ∧ enc s = e ∧ PC τ tal md s0 Q k s v ∧ (∀ k' v', PC τ tal md s0 Q k' s v' → v' ≤ v) ∧ h.I (b + 53) e = iI v ∧ h.I (b + 54) e = nI k
def Qe (e t : Nat) : Nat → Nat → Prop := fun s1 j => enc s1 < e ∨ (enc s1 = e ∧ j < t)
theorem PC_up {τ : TT} (hτ : TownOK τ) (hs0 : SV τ s0) {s t s2 : Nat} {w2 : Int} (hs : SV τ s) (hst : StP τ tal md s t s2 w2) {Q : Nat → Nat → Prop} (hQ1 : ∀ s1 j, Qe (enc s) t s1 j → Q s1 j) (hQ2 : ∀ s1 j s' w, SV τ s1 → StP τ tal md s1 j s' w → Q s1 j → Qe (enc s) t s1 j ∨ (s1 = s ∧ j = t)) (hQ3 : Q s t) {k s' : Nat} {v : Int} : PC τ tal md s0 Q k s' v ↔ PC τ tal md s0 (Qe (enc s) t) k s' v ∨ (s' = s2 ∧ ∃ k' v1, k = k' + 1 ∧ Pt τ tal md s0 k' s v1 ∧ v = v1 + w2) := by
  unfold PC
  constructor
  · rintro (h | ⟨k', rfl, h⟩)
    · exact Or.inl (Or.inl h)
    · rcases (PS_up hτ hQ1 hQ2 hs0 hQ3 hst).mp h with q | ⟨q1, v1, q2, q3⟩
      · exact Or.inl (Or.inr ⟨k', rfl, q⟩)
      · exact Or.inr ⟨q1, k', v1, rfl, q2, q3⟩
  · rintro ((h | ⟨k', rfl, h⟩) | ⟨q1, k', v1, rfl, q2, q3⟩)
    · exact Or.inl h
    · exact Or.inr ⟨k', rfl, (PS_up hτ hQ1 hQ2 hs0 hQ3 hst).mpr (Or.inl h)⟩
    · exact Or.inr ⟨k', rfl, (PS_up hτ hQ1 hQ2 hs0 hQ3 hst).mpr (Or.inr ⟨q1, v1, q2, q3⟩)⟩
/-- a stand is reached -/
theorem rea_ok {z : Sh} {h : Hp} (W : WayD z0 b c z h wt ω tal md st ts) (hs0 : SV ω s0) {s t s2 k : Nat} {w2 v : Int} (hs : SV ω s) (hst : StP ω tal md s t s2 w2) {Q : Nat → Nat → Prop} (hQ1 : ∀ s1 j, Qe (enc s) t s1 j → Q s1 j) (hQ2 : ∀ s1 j s' w, SV ω s1 → StP ω tal md s1 j s' w → Q s1 j → Qe (enc s) t s1 j ∨ (s1 = s ∧ j = t)) (hQ3 : Q s t) (hp : Pt ω tal md s0 k s v) (hm : ∀ k' v', Pt ω tal md s0 k' s v' → v' ≤ v) (R : ∀ e, e < 1400 → RI ω tal md s0 (Qe (enc s) t) b h e) : ∃ h', f_X1_reach z h (b + 50) (nI (enc s2)) (iI (v + w2)) (nI (k + 1)) = some h' ∧ WayD z0 b c z h' wt ω tal md st ts ∧ Ex b z h z h' ∧ h'.I (b + 44) = h.I (b + 44) ∧ (∀ e, e < 1400 → RI ω tal md s0 Q b h' e) ∧ ∀ e, e ≠ enc s2 → h'.I (b + 53) e = h.I (b + 53) e ∧ h'.I (b + 54) e = h.I (b + 54) e := by
  have hω := W.2.1.2.2.1
  have HX := W.1.1
  obtain ⟨p1, p2, p3, p4, p5, p6⟩ := StP_ok hω hs hst
  obtain ⟨a1, a2, a3, a4⟩ := e_bd hω p1
  obtain ⟨-, pk, pv, -⟩ := Pt_ok hω hs0 hp
  have h13 := rk_le hω s0
  have up := fun {k s' v} => PC_up (k := k) (s' := s') (v := v) hω hs0 hs hst hQ1 hQ2 hQ3
  have key : ∀ x : Int, (h.I (b + 53) (enc s2) = iI (-1000000) → x = v + w2) → (∀ y, h.I (b + 53) (enc s2) = iI y → -200 ≤ y → y ≤ 200 → (y < v + w2 → x = v + w2) ∧ (v + w2 ≤ y → x = y)) → ∀ e, e < 1400 → RI ω tal md s0 Q b ((h.setI (b + 53) (enc s2) (iI x)).setI (b + 54) (enc s2) (nI (k + 1))) e := by
    intro x hx1 hx2 e he
    have i53 : ((h.setI (b + 53) (enc s2) (iI x)).setI (b + 54) (enc s2) (nI (k + 1))).I (b + 53) = upd (h.I (b + 53)) (enc s2) (iI x) := by rw [setI_I, if_neg (by omega), setI_I, if_pos rfl]
    have i54 : ((h.setI (b + 53) (enc s2) (iI x)).setI (b + 54) (enc s2) (nI (k + 1))).I (b + 54) = upd (h.I (b + 54)) (enc s2) (nI (k + 1)) := by rw [setI_I, if_pos rfl, setI_I, if_neg (by omega)]
    unfold RI
    rw [i53, i54]
    by_cases ee : e = enc s2
    · subst ee
      refine Or.inr ⟨s2, k + 1, x, p1, rfl, ?_, ?_, if_pos rfl, if_pos rfl⟩
      · rcases R (enc s2) he with ⟨r1, r2⟩ | ⟨s', k', v', r1, r2, r3, r4, r5, r6⟩
        · rw [hx1 r1]
          exact up.mpr (Or.inr ⟨rfl, k, v, rfl, hp, rfl⟩)
        · obtain rfl := enc_inj hω r1 p1 r2
          obtain ⟨-, qk, qv, -⟩ := Pt_ok hω hs0 (PC_pt r3)
          obtain ⟨x1, x2⟩ := hx2 v' r5 (by omega) (by omega)
          rcases Int.lt_or_le v' (v + w2) with q | q
          · rw [x1 q]
            exact up.mpr (Or.inr ⟨rfl, k, v, rfl, hp, rfl⟩)
          · rw [x2 q]
            have hk : k' = k + 1 := Pt_uniq hω hs0 (show Pt ω tal md s0 (k + 1) s' (v + w2) from ⟨s, v, t, w2, hp, hst, rfl⟩) (PC_pt r3)
            rw [hk] at r3
            exact up.mpr (Or.inl r3)
      · intro k' v' hv'
        have new : ∀ k1 v1, Pt ω tal md s0 k1 s v1 → v1 + w2 ≤ v + w2 := fun k1 v1 q => by have := hm _ _ q; omega
        rcases R (enc s2) he with ⟨r1, r2⟩ | ⟨s', k2, v2, r1, r2, r3, r4, r5, r6⟩
        · rw [hx1 r1]
          rcases up.mp hv' with q | ⟨-, k1, v1, -, q2, q3⟩
          · exact absurd q (r2 _ p1 rfl _ _)
          · rw [q3]; exact new _ _ q2
        · obtain rfl := enc_inj hω r1 p1 r2
          obtain ⟨-, qk, qv, -⟩ := Pt_ok hω hs0 (PC_pt r3)
          obtain ⟨x1, x2⟩ := hx2 v2 r5 (by omega) (by omega)
          rcases Int.lt_or_le v2 (v + w2) with q | q
          · rw [x1 q]
            rcases up.mp hv' with q | ⟨-, k1, v1, -, q2, q3⟩
            · have := r4 _ _ q
              omega
            · rw [q3]; exact new _ _ q2
          · rw [x2 q]
            rcases up.mp hv' with q | ⟨-, k1, v1, -, q2, q3⟩
            · exact r4 _ _ q
            · have := new _ _ q2
              omega
    · rw [show upd (h.I (b + 53)) (enc s2) (iI x) e = h.I (b + 53) e from if_neg ee, show upd (h.I (b + 54)) (enc s2) (nI (k + 1)) e = h.I (b + 54) e from if_neg ee]
      rcases R e he with ⟨r1, r2⟩ | ⟨s', k', v', r1, r2, r3, r4, r5, r6⟩
      · refine Or.inl ⟨r1, fun s' hs' he' k' v' q => ?_⟩
        rcases up.mp q with q | ⟨q, -⟩
        · exact r2 s' hs' he' k' v' q
        · rw [q] at he'
          exact ee he'.symm
      · refine Or.inr ⟨s', k', v', r1, r2, up.mpr (Or.inl r3), fun k1 v1 q => ?_, r5, r6⟩
        rcases up.mp q with q | ⟨q, -⟩
        · exact r4 _ _ q
        · rw [q] at r2
          exact absurd r2.symm ee
  have fin : ∀ x : Int, f_J9_max_7cf53 z h (h.I (b + 53) (enc s2)) (iI (v + w2)) = some (iI x) → (∀ e, e < 1400 → RI ω tal md s0 Q b ((h.setI (b + 53) (enc s2) (iI x)).setI (b + 54) (enc s2) (nI (k + 1))) e) → ∃ h', f_X1_reach z h (b + 50) (nI (enc s2)) (iI (v + w2)) (nI (k + 1)) = some h' ∧ WayD z0 b c z h' wt ω tal md st ts ∧ Ex b z h z h' ∧ h'.I (b + 44) = h.I (b + 44) ∧ (∀ e, e < 1400 → RI ω tal md s0 Q b h' e) ∧ ∀ e, e ≠ enc s2 → h'.I (b + 53) e = h.I (b + 53) e ∧ h'.I (b + 54) e = h.I (b + 54) e := by
    intro x e1 hk
    have hI : ∀ a, a ≠ b + 53 → a ≠ b + 54 → ((h.setI (b + 53) (enc s2) (iI x)).setI (b + 54) (enc s2) (nI (k + 1))).I a = h.I a := fun a k1 k2 => by rw [setI_I, if_neg k2, setI_I, if_neg k1]
    obtain ⟨W1, E1⟩ := W.w53 (h' := (h.setI (b + 53) (enc s2) (iI x)).setI (b + 54) (enc s2) (nI (k + 1))) rfl (fun _ => rfl) hI
    refine ⟨_, ?_, W1, E1, hI _ (by omega) (by omega), hk, fun e ee => ?_⟩
    · unfold f_X1_reach
      rw [if_pos (kx_50 HX), if_neg (show ¬ nI (enc s2) < 0 from fun q => by have := (nI_lt2 (j := 0) (by omega) (by omega)).mp q; omega), gR_ok (kx_50 HX) (rx_50_2 HX), bS, aL_ok (kx_53 HX) rfl (nx_53 HX), bS, if_neg (fun q => by have := (nI_leI (by omega) (by omega)).mp q; omega), gR_ok (kx_50 HX) (rx_50_3 HX), bS, aL_ok (kx_54 HX) rfl (nx_54 HX), bS, if_neg (fun q => by have := (nI_leI (by omega) (by omega)).mp q; omega), bS, bS, lx_53 HX a4, bS, e1, bS, sx_53 HX a4, bS, gR_ok (kx_50 HX) (rx_50_3 (h := h.setI (b + 53) (enc s2) (iI x)) HX), bS, sx_54 HX a4, bS]
    · rw [setI_I, if_neg (by omega), setI_I, if_pos rfl, setI_I, if_pos rfl, setI_I, if_neg (by omega)]
      exact ⟨if_neg ee, if_neg ee⟩
  rcases R (enc s2) a4 with ⟨r1, r2⟩ | ⟨s', k', v', r1, r2, r3, r4, r5, r6⟩
  · refine fin (v + w2) ?_ (key (v + w2) (fun _ => rfl) (fun y hy h1 h2 => ?_))
    · rw [r1]
      unfold f_J9_max_7cf53
      rw [if_pos ((iI_lt (by omega) (by omega) (by omega) (by omega)).mpr (by omega))]
    · rw [r1, iI_eq (by omega) (by omega) (by omega) (by omega)] at hy
      omega
  · obtain ⟨-, qk, qv, -⟩ := Pt_ok hω hs0 (PC_pt r3)
    rcases Int.lt_or_le v' (v + w2) with q | q
    · refine fin (v + w2) ?_ (key (v + w2) (fun _ => rfl) (fun y hy h1 h2 => ⟨fun _ => rfl, fun q2 => ?_⟩))
      · rw [r5]
        unfold f_J9_max_7cf53
        rw [if_pos ((iI_lt (by omega) (by omega) (by omega) (by omega)).mpr q)]
      · rw [r5, iI_eq (by omega) (by omega) (by omega) (by omega)] at hy
        omega
    · refine fin v' ?_ (key v' (fun hy => ?_) (fun y hy h1 h2 => ?_))
      · rw [r5]
        unfold f_J9_max_7cf53
        rw [if_neg (fun q2 => by rw [iI_lt (by omega) (by omega) (by omega) (by omega)] at q2; omega)]
      · rw [r5, iI_eq (by omega) (by omega) (by omega) (by omega)] at hy
        omega
      · rw [r5, iI_eq (by omega) (by omega) (by omega) (by omega)] at hy
        omega
end
