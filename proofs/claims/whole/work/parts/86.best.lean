/-! ===== the best course on the class's side ===== -/
def rk (τ : TT) (s : Nat) : Nat := if sL s = 1 then (tY τ - sY s) + tY τ + 1 else tY τ - sY s
theorem rk_le {τ : TT} (hτ : TownOK τ) (s : Nat) : rk τ s ≤ 13 := by
  have := hτ.1
  unfold rk
  split <;> omega
theorem rk_lv {τ : TT} (hτ : TownOK τ) {s t : Nat} (hs : SV τ s) (ht : t < tD τ) (hy : sY s < tY τ) : rk τ (lvN s t) + 1 = rk τ s := by
  obtain ⟨l1, l2, l3, l4, -⟩ := lv_SV hτ hs ht hy
  unfold rk
  rw [l2, l4]
  split <;> omega
theorem rk_dr {τ : TT} (hτ : TownOK τ) {tal s : Nat} (hs : SV τ s) (hl : sL s = 1) : rk τ (drN τ tal s) < rk τ s := by
  obtain ⟨l1, l2, l3, l4, -⟩ := dr_SV (tal := tal) hτ hs
  unfold rk
  rw [l2, l4, if_neg (by omega), if_pos hl]
  omega
theorem opn_lt {τ : TT} {s t : Nat} (h : t < opn τ s) : sY s < tY τ ∧ t < tD τ := by
  unfold opn at h
  split at h
  · exact ⟨by assumption, h⟩
  · omega
theorem scT_congr {g g' : Nat → Int} : ∀ n, (∀ t, t < n → g t = g' t) → scT g n = scT g' n := by
  intro n
  induction n with
  | zero => intro _; rfl
  | succ n ih =>
    intro h
    unfold scT
    rw [ih (fun t ht => h t (by omega)), h n (by omega)]
section
variable {τ : TT} {tal : Nat} {md : Bool}
theorem SC_s (k s : Nat) : SC τ tal md (k + 1) s = if (md = true ∧ sL s = 1) ∧ (scT (fun t => (SC τ tal md k (lvN s t)).1 + 16 * wV τ tal s t - 1) (opn τ s)).1 < (SC τ tal md k (drN τ tal s)).1 - 1 then ((SC τ tal md k (drN τ tal s)).1 - 1, 9) else scT (fun t => (SC τ tal md k (lvN s t)).1 + 16 * wV τ tal s t - 1) (opn τ s) := rfl
theorem SC_stab (hτ : TownOK τ) : ∀ k s, SV τ s → rk τ s < k → SC τ tal md (k + 1) s = SC τ tal md k s := by
  intro k
  induction k with
  | zero => intro s _ h; omega
  | succ k ih =>
    intro s hs hr
    have e1 : scT (fun t => (SC τ tal md (k + 1) (lvN s t)).1 + 16 * wV τ tal s t - 1) (opn τ s) = scT (fun t => (SC τ tal md k (lvN s t)).1 + 16 * wV τ tal s t - 1) (opn τ s) := scT_congr _ (fun t ht => by
      obtain ⟨q1, q2⟩ := opn_lt ht
      have := rk_lv hτ hs q2 q1
      try dsimp only
      rw [ih (lvN s t) (lv_SV hτ hs q2 q1).1 (by omega)])
    rw [SC_s k, SC_s (k + 1), e1]
    by_cases hc : md = true ∧ sL s = 1
    · have := rk_dr (tal := tal) hτ hs hc.2
      rw [ih (drN τ tal s) (dr_SV hτ hs).1 (by omega)]
    · rw [if_neg (fun q => hc q.1), if_neg (fun q => hc q.1)]
theorem SC_13 (hτ : TownOK τ) {s : Nat} (hs : SV τ s) (hr : rk τ s < 13) : SC τ tal md 13 s = SC τ tal md 14 s := (SC_stab hτ 13 s hs hr).symm
/-- what the best course is made of -/
def SG (τ : TT) (tal : Nat) (md : Bool) (s : Nat) : Nat → Int := fun t => (SC τ tal md 14 (lvN s t)).1 + 16 * wV τ tal s t - 1
theorem SC_eq (hτ : TownOK τ) {s : Nat} (hs : SV τ s) : SC τ tal md 14 s = if (md = true ∧ sL s = 1) ∧ (scT (SG τ tal md s) (opn τ s)).1 < (SC τ tal md 14 (drN τ tal s)).1 - 1 then ((SC τ tal md 14 (drN τ tal s)).1 - 1, 9) else scT (SG τ tal md s) (opn τ s) := by
  have h13 := rk_le hτ s
  have e1 : scT (fun t => (SC τ tal md 13 (lvN s t)).1 + 16 * wV τ tal s t - 1) (opn τ s) = scT (SG τ tal md s) (opn τ s) := scT_congr _ (fun t ht => by
    obtain ⟨q1, q2⟩ := opn_lt ht
    have := rk_lv hτ hs q2 q1
    unfold SG
    try dsimp only
    rw [SC_13 hτ (lv_SV hτ hs q2 q1).1 (by omega)])
  rw [show SC τ tal md 14 s = SC τ tal md (13 + 1) s from rfl, SC_s 13, e1]
  by_cases hc : md = true ∧ sL s = 1
  · have := rk_dr (tal := tal) hτ hs hc.2
    rw [SC_13 hτ (dr_SV hτ hs).1 (by omega)]
  · rw [if_neg (fun q => hc q.1), if_neg (fun q => hc q.1)]
theorem scT_bd {g : Nat → Int} {B : Int} (hB : 0 ≤ B) : ∀ n, (∀ t, t < n → g t ≤ B) → 0 ≤ (scT g n).1 ∧ (scT g n).1 ≤ B ∧ -1 ≤ (scT g n).2 ∧ (scT g n).2 < n := by
  intro n
  induction n with
  | zero =>
    intro _
    exact ⟨(show (0 : Int) ≤ 0 by decide), hB, (show (-1 : Int) ≤ -1 by decide), (show (-1 : Int) < 0 by decide)⟩
  | succ n ih =>
    intro h
    obtain ⟨i1, i2, i3, i4⟩ := ih (fun t ht => h t (by omega))
    unfold scT
    split
    · rename_i hc
      exact ⟨by dsimp only; omega, h n (by omega), by dsimp only; omega, by dsimp only; omega⟩
    · exact ⟨i1, i2, i3, by omega⟩
theorem SC_bd (hτ : TownOK τ) : ∀ k s, SV τ s → 0 ≤ (SC τ tal md k s).1 ∧ (SC τ tal md k s).1 ≤ 144 * (rk τ s : Int) ∧ -1 ≤ (SC τ tal md k s).2 ∧ (SC τ tal md k s).2 ≤ 9 := by
  intro k
  induction k with
  | zero =>
    intro s hs
    exact ⟨(show (0 : Int) ≤ 0 by decide), (show (0 : Int) ≤ 144 * (rk τ s : Int) by omega), (show (-1 : Int) ≤ -1 by decide), (show (-1 : Int) ≤ 9 by decide)⟩
  | succ k ih =>
    intro s hs
    have hD := hτ.2.1
    have hb := scT_bd (g := fun t => (SC τ tal md k (lvN s t)).1 + 16 * wV τ tal s t - 1) (B := 144 * (rk τ s : Int)) (by omega) (opn τ s) (fun t ht => by
      obtain ⟨q1, q2⟩ := opn_lt ht
      have := rk_lv hτ hs q2 q1
      have h2 := ih _ (lv_SV hτ hs q2 q1).1
      have h3 := wV_bd τ tal s t
      try dsimp only
      omega)
    have ho : opn τ s ≤ 4 := by unfold opn; split <;> omega
    rw [SC_s]
    split
    · rename_i hc
      have := rk_dr (tal := tal) hτ hs hc.1.2
      have h2 := ih (drN τ tal s) (dr_SV hτ hs).1
      dsimp only
      refine ⟨by omega, by omega, by decide, by decide⟩
    · exact ⟨hb.1, hb.2.1, hb.2.2.1, by omega⟩
end
def scV (τ : TT) (tal : Nat) (md : Bool) (s : Nat) : Nat := ((SC τ tal md 14 s).1 * 16 + (SC τ tal md 14 s).2 + 1).toNat
theorem scV_ok {τ : TT} {tal : Nat} {md : Bool} (hτ : TownOK τ) {s : Nat} (hs : SV τ s) : (scV τ tal md s : Int) = (SC τ tal md 14 s).1 * 16 + (SC τ tal md 14 s).2 + 1 ∧ scV τ tal md s < 100000 ∧ (scV τ tal md s : Int) / 16 = (SC τ tal md 14 s).1 ∧ (scV τ tal md s : Int) % 16 - 1 = (SC τ tal md 14 s).2 := by
  have := SC_bd (tal := tal) (md := md) hτ 14 s hs
  have h2 := rk_le hτ s
  unfold scV
  refine ⟨by omega, by omega, by omega, by omega⟩
theorem ckK_ok {z : Sh} {a k : Nat} (h : z.K a = k) : ckK z a k = some () := if_pos h
section
variable {n : Nat} {z0 : Sh} {b c : Nat} {wt : Nat} {ω : TT} {tal : Nat} {md : Bool} {st ts : Nat}
theorem sIn_ok {z : Sh} {h : Hp} {s : Nat} (hω : TownOK ω) (hs : SV ω s) : f_X1_scoreIn z h (lI (scV ω tal md s : Int)) = some (iI (SC ω tal md 14 s).1) := by
  obtain ⟨v1, v2, v3, v4⟩ := scV_ok (tal := tal) (md := md) hω hs
  unfold f_X1_scoreIn
  rw [show (16 : Int64) = lI 16 by decide, dvJ_ok (by omega) (by omega) (by omega) (by omega), bS, lI_32, v3]
theorem dIn_ok {z : Sh} {h : Hp} {s : Nat} (hω : TownOK ω) (hs : SV ω s) : f_X1_doingIn z h (lI (scV ω tal md s : Int)) = some (iI (SC ω tal md 14 s).2) := by
  obtain ⟨v1, v2, v3, v4⟩ := scV_ok (tal := tal) (md := md) hω hs
  unfold f_X1_doingIn
  rw [show (16 : Int64) = lI 16 by decide, rmJ_ok (by omega) (by omega) (by omega) (by omega), bS, lI_32, show (1 : Int32) = iI 1 by decide, iI_sub, v4]
/-- a best course is laid down -/
theorem WayD.setB {z : Sh} {h : Hp} (W : WayD z0 b c z h wt ω tal md st ts) {s : Nat} (hs : SV ω s) (hl : ∀ t, t < opn ω s → Stm (h.J (b + 52)) st (enc (lvN s t))) (hd : md = true ∧ sL s = 1 → Stm (h.J (b + 52)) st (enc (drN ω tal s))) : WayD z0 b c z (h.setJ (b + 52) (enc s) (lI ((st : Int) * 281474976710656 + scV ω tal md s))) wt ω tal md st ts ∧ WE b st z h z (h.setJ (b + 52) (enc s) (lI ((st : Int) * 281474976710656 + scV ω tal md s))) ∧ Stm ((h.setJ (b + 52) (enc s) (lI ((st : Int) * 281474976710656 + scV ω tal md s))).J (b + 52)) st (enc s) := by
  obtain ⟨⟨HX, HR, w3, w4, w5, w6, w7⟩, ⟨w8, w9, w10, w11⟩, ⟨w12, w13, w14, w15⟩, w16, ⟨⟨w17, w17'⟩, w18⟩, w19, w20⟩ := W
  have hb : b + 92 ≤ z.sz := HR.1
  obtain ⟨v1, v2, v3, v4⟩ := scV_ok (tal := tal) (md := md) w10 hs
  have hJ : ∀ a, a ≠ b + 52 → (h.setJ (b + 52) (enc s) (lI ((st : Int) * 281474976710656 + scV ω tal md s))).J a = h.J a := fun a ha => by rw [setJ_J, if_neg ha]
  have hJ2 : (h.setJ (b + 52) (enc s) (lI ((st : Int) * 281474976710656 + scV ω tal md s))).J (b + 52) = vp_updL (h.J (b + 52)) (enc s) (lI ((st : Int) * 281474976710656 + scV ω tal md s)) := by rw [setJ_J, if_pos rfl]
  have E : Ex b z h z (h.setJ (b + 52) (enc s) (lI ((st : Int) * 281474976710656 + scV ω tal md s))) := ⟨⟨Nat.le_refl _, Nat.le_refl _⟩, fun _ _ => ⟨rfl, rfl⟩, fun _ => rfl, fun _ _ _ _ _ _ _ _ _ => rfl, fun a ha k1 _ => hJ a k1, fun _ _ _ _ _ => rfl⟩
  have mono : ∀ c, Stm (h.J (b + 52)) st c → Stm (vp_updL (h.J (b + 52)) (enc s) (lI ((st : Int) * 281474976710656 + scV ω tal md s))) st c := fun c q => by
    by_cases e : c = enc s
    · exact ⟨scV ω tal md s, by omega, if_pos e⟩
    · obtain ⟨v, q1, q2⟩ := q
      exact ⟨v, q1, (if_neg e).trans q2⟩
  refine ⟨⟨⟨HX, HR, w3, w4, w5, w6, w7⟩, ⟨w8, (w9.ex hb E).1, w10, w11⟩, ⟨w12, w13, w14, w15⟩, w16, ⟨⟨?_, ?_⟩, by rw [hJ _ (by omega)]; exact w18⟩, ?_, ?_⟩, ⟨E, fun c q => by rw [hJ2]; exact mono c q, rfl, rfl, rfl, fun _ q => q⟩, ?_⟩
  · rw [hJ2]
    refine w17.up w3 (by omega) (fun s' hs' he => ?_)
    have := enc_inj w10 hs' hs he
    rw [this]
    exact v1
  · rw [hJ2]
    intro h0 s' hs' hst
    by_cases e : enc s' = enc s
    · have := enc_inj w10 hs' hs e
      subst this
      exact ⟨fun t ht => mono _ (hl t ht), fun q => mono _ (hd q)⟩
    · have hst' : Stm (h.J (b + 52)) st (enc s') := by
        obtain ⟨v, q1, q2⟩ := hst
        exact ⟨v, q1, (if_neg e).symm.trans q2⟩
      obtain ⟨q1, q2⟩ := w17' h0 s' hs' hst'
      exact ⟨fun t ht => mono _ (q1 t ht), fun q => mono _ (q2 q)⟩
  · intro k hk mo hm
    obtain ⟨m1, m2, m3, m4, m5, m6, m7, m8, m9⟩ := w19 k hk mo hm
    exact ⟨m1, m2, m3, m4, m5, m6, by rw [hJ _ (by omega)]; exact m7, m8, m9⟩
  · intro mo hm
    obtain ⟨m1, m2, m3, m4, m5, m6, m7, m8⟩ := w20 mo hm
    exact ⟨m1, m2, m3, m4, m5, m6, m7, by rw [hJ _ (by omega)]; exact m8⟩
  · rw [hJ2]
    exact ⟨scV ω tal md s, by omega, if_pos rfl⟩
theorem gd3_go {α : Type} {z1 z2 : Sh} {h2 : Hp} {r : α} {x : Option (α × Hp × Sh)} (hc : z1.sz ≤ z2.sz ∧ z1.sl ≤ z2.sl) (hx : x = some (r, h2, z2)) : gd3 z1 x = some (r, h2, z2) := gd3_ok hx hc
/-- what is asked of a best course from a stand -/
def BOK (n : Nat) (z0 : Sh) (b c wt : Nat) (ω : TT) (tal : Nat) (md : Bool) (st ts : Nat) (G : Sh → Hp → Nat → Int32 → Option (Int64 × Hp × Sh)) (s : Nat) : Prop := ∀ z h, WayD z0 b c z h wt ω tal md st ts → ∃ z' h', G z h (b + 50) (nI (enc s)) = some (lI (scV ω tal md s : Int), h', z') ∧ WayD z0 b c z' h' wt ω tal md st ts ∧ WE b st z h z' h' ∧ Stm (h'.J (b + 52)) st (enc s)
theorem cb_156 (W : ∃ z h, WayD z0 b c z h wt ω tal md st ts) {G : Sh → Hp → Nat → Int32 → Option (Int64 × Hp × Sh)} {s : Nat} (hs : SV ω s) {z : Sh} {h : Hp} (W1 : WayD z0 b c z h wt ω tal md st ts) (hl : ∀ t, t < opn ω s → Stm (h.J (b + 52)) st (enc (lvN s t))) (hd : md = true ∧ sL s = 1 → Stm (h.J (b + 52)) st (enc (drN ω tal s))) : ∃ h', f_X1_bestFrom_156 n G z h (b + 50) (nI (enc s)) (iI (SC ω tal md 14 s).1) (iI (SC ω tal md 14 s).2) = some (lI (scV ω tal md s : Int), h', z) ∧ WayD z0 b c z h' wt ω tal md st ts ∧ WE b st z h z h' ∧ Stm (h'.J (b + 52)) st (enc s) := by
  have HX := W1.1.1
  have w10 := W1.2.1.2.2.1
  have hst := W1.1.2.2.2.1
  have hc6 := W1.1.2.2.2.2.2.2
  obtain ⟨v1, v2, v3, v4⟩ := scV_ok (tal := tal) (md := md) w10 hs
  obtain ⟨b1, b2, b3, b4⟩ := SC_bd (tal := tal) (md := md) w10 14 s hs
  have hrk := rk_le w10 s
  have MXx : MX z h (b + 51) (b + 52) 1400 := ⟨kx_51 HX, rx_51_0 HX, kx_52 HX, nx_52 HX⟩
  obtain ⟨a1, a2, a3, a4⟩ := e_bd w10 hs
  obtain ⟨W2, E2, S2⟩ := W1.setB hs hl hd
  refine ⟨_, ?_, W2, E2, S2⟩
  unfold f_X1_bestFrom_156
  rw [iI_64 (by omega) (by omega), iI_64 (by omega) (by omega), show (16 : Int64) = lI 16 by decide, lI_mul, lI_add, show (1 : Int64) = lI 1 by decide, lI_add, ← v1, bS, gR_ok (kx_50 HX) (rx_50_1 HX), bS, gR_ok (kx_50 HX) (rx_50_0 HX), bS, gI_ok (kx_44 HX), bS, W1.2.2.1.2.2.2, mkeep_ok MXx (by omega) (by omega) (by omega) (by omega), bS]
theorem cb_45 (hn : 400000 ≤ n) {G : Sh → Hp → Nat → Int32 → Option (Int64 × Hp × Sh)} {s : Nat} (hω : TownOK ω) (hs : SV ω s) (hG : ∀ t, t < opn ω s → BOK n z0 b c wt ω tal md st ts G (lvN s t)) (hG2 : md = true ∧ sL s = 1 → BOK n z0 b c wt ω tal md st ts G (drN ω tal s)) :
    ∀ (d t i : Nat) (z : Sh) (h : Hp), t + d = opn ω s → d < i → WayD z0 b c z h wt ω tal md st ts → (∀ t', t' < t → Stm (h.J (b + 52)) st (enc (lvN s t'))) → ∃ z' h', f_X1_bestFrom_45 n G i z h (b + 50) (nI (enc s)) (iI (scT (SG ω tal md s) t).1) (iI (scT (SG ω tal md s) t).2) (nI (opn ω s)) (nI t) = some (lI (scV ω tal md s : Int), h', z') ∧ WayD z0 b c z' h' wt ω tal md st ts ∧ WE b st z h z' h' ∧ Stm (h'.J (b + 52)) st (enc s) := by
  have ho : opn ω s ≤ 4 := by have := hω.2.1; unfold opn; split <;> omega
  have hrk := rk_le hω s
  intro d
  induction d with
  | zero =>
    intro t i z h hj hi W hst
    obtain ⟨i, rfl⟩ : ∃ k, i = k + 1 := ⟨i - 1, by omega⟩
    obtain rfl : t = opn ω s := by omega
    have HX := W.1.1
    have eq := SC_eq (tal := tal) (md := md) hω hs
    have bd := SC_bd (tal := tal) (md := md) hω 14 s hs
    have tb := scT_bd (g := SG ω tal md s) (B := 144 * (rk ω s : Int)) (by omega) (opn ω s) (fun t ht => by
      obtain ⟨q1, q2⟩ := opn_lt ht
      have := rk_lv hω hs q2 q1
      have h2 := SC_bd (tal := tal) (md := md) hω 14 _ (lv_SV hω hs q2 q1).1
      have h3 := wV_bd ω tal s t
      unfold SG
      omega)
    rw [f_X1_bestFrom_45.eq_2, if_pos ((nI_leI (by omega) (by omega)).mpr (Nat.le_refl _)), gR_ok (kx_50 HX) (rx_50_0 HX), bS, adr_ok HX hω hs W.2.2.1.2.2.1 W.2.2.2.1, bS]
    by_cases hc : md = true ∧ sL s = 1
    · have e1400 := (e_bd hω (dr_SV (tal := tal) hω hs).1).2.2.2
      have bd2 := SC_bd (tal := tal) (md := md) hω 14 _ (dr_SV (tal := tal) hω hs).1
      have hr2 := rk_le hω (drN ω tal s)
      obtain ⟨z1, h1, e1, W1, E1, S1⟩ := hG2 hc z h W
      have ne : ¬ nI (enc (drN ω tal s)) = -1 := by
        rw [← Int32.toInt_inj, nI_to (by omega), show (-1 : Int32).toInt = -1 from rfl]
        omega
      have fin : ∀ (x y : Int), x = (SC ω tal md 14 s).1 → y = (SC ω tal md 14 s).2 → ∃ z' h', gd3 z1 (f_X1_bestFrom_156 n G z1 h1 (b + 50) (nI (enc s)) (iI x) (iI y)) = some (lI (scV ω tal md s : Int), h', z') ∧ WayD z0 b c z' h' wt ω tal md st ts ∧ WE b st z h z' h' ∧ Stm (h'.J (b + 52)) st (enc s) := fun x y hx hy => by
        rw [hx, hy]
        obtain ⟨h', f1, W2, E2, S2⟩ := cb_156 (n := n) (G := G) ⟨z, h, W⟩ hs W1 (fun t ht => E1.2.1 _ (hst t ht)) (fun _ => S1)
        exact ⟨z1, h', gd3_ok f1 ⟨Nat.le_refl _, Nat.le_refl _⟩, W2, E1.trans E2, S2⟩
      rw [if_pos hc, if_neg ne, ckK_ok (kx_50 HX), bS, e1, bS]
      dsimp only
      rw [sIn_ok hω (dr_SV hω hs).1, bS, show (1 : Int32) = iI 1 by decide, iI_sub]
      unfold f_X1_bestFrom_139
      rw [eq] at fin
      by_cases hlt : (scT (SG ω tal md s) (opn ω s)).1 < (SC ω tal md 14 (drN ω tal s)).1 - 1
      · rw [if_pos ⟨hc, hlt⟩] at fin
        rw [if_neg (fun q => by rw [iI_le (by omega) (by omega) (by omega) (by omega)] at q; omega), show (9 : Int32) = iI 9 by decide]
        exact fin _ _ rfl rfl
      · rw [if_neg (fun q => hlt q.2)] at fin
        rw [if_pos ((iI_le (by omega) (by omega) (by omega) (by omega)).mpr (by omega))]
        exact fin _ _ rfl rfl
    · rw [if_neg hc, if_pos rfl]
      unfold f_X1_bestFrom_139
      rw [if_neg (fun q => hc q.1)] at eq
      rw [if_pos (show (-1 : Int32) ≤ iI (scT (SG ω tal md s) (opn ω s)).1 by rw [show (-1 : Int32) = iI (-1) by decide, iI_le (by omega) (by omega) (by omega) (by omega)]; omega), ← eq]
      obtain ⟨h', f1, W2, E2, S2⟩ := cb_156 (n := n) (G := G) ⟨z, h, W⟩ hs W hst (fun q => absurd q hc)
      exact ⟨z, h', f1, W2, E2, S2⟩
  | succ d ih =>
    intro t i z h hj hi W hst
    obtain ⟨i, rfl⟩ : ∃ k, i = k + 1 := ⟨i - 1, by omega⟩
    have HX := W.1.1
    obtain ⟨q1, q2⟩ := opn_lt (show t < opn ω s by omega)
    have hlv := (lv_SV hω hs q2 q1).1
    have hr1 := rk_lv hω hs q2 q1
    have bd1 := SC_bd (tal := tal) (md := md) hω 14 _ hlv
    have hwb := wV_bd ω tal s t
    obtain ⟨z1, h1, e1, W1, E1, S1⟩ := hG t (by omega) z h W
    have HX1 := W1.1.1
    obtain ⟨z2, h2, e2, W2, E2⟩ := cw_ok (n := n) hn W1 hs q2
    have tb := scT_bd (g := SG ω tal md s) (B := 144 * (rk ω s : Int)) (by omega) t (fun t' ht' => by
      obtain ⟨q1', q2'⟩ := opn_lt (show t' < opn ω s by omega)
      have := rk_lv hω hs q2' q1'
      have h2 := SC_bd (tal := tal) (md := md) hω 14 _ (lv_SV hω hs q2' q1').1
      have h3 := wV_bd ω tal s t'
      unfold SG
      omega)
    obtain ⟨z', h', f1, W3, E3, S3⟩ := ih (t + 1) i z2 h2 (by omega) (by omega) W2 (fun t' ht' => by
      by_cases e : t' = t
      · rw [e]; exact E2.2.1 _ S1
      · exact E2.2.1 _ (E1.2.1 _ (hst t' (by omega))))
    have EE := (E1.trans E2).trans E3
    refine ⟨z', h', ?_, W3, EE, S3⟩
    rw [f_X1_bestFrom_45.eq_2, if_neg (fun q => by have := (nI_leI (by omega) (by omega)).mp q; omega), gR_ok (kx_50 HX) (rx_50_0 HX), bS, xlv_ok hω (kx_44 HX) hs q2 q1, bS, ckK_ok (kx_50 HX), bS, e1, bS]
    dsimp only
    refine gd3_go (E2.trans E3).1.1 ?_
    rw [sIn_ok hω hlv, bS, gR_ok (kx_50 HX1) (rx_50_0 HX1), bS, e2, bS]
    dsimp only
    refine gd3_go E3.1.1 ?_
    have e16 : iI (SC ω tal md 14 (lvN s t)).1 + iI (wV ω tal s t) * 16 - 1 = iI (SG ω tal md s t) := by
      rw [show (16 : Int32) = iI 16 by decide, iI_mul, iI_add, show (1 : Int32) = iI 1 by decide, iI_sub]
      unfold SG
      congr 1
      omega
    have gb : -1000 ≤ SG ω tal md s t ∧ SG ω tal md s t ≤ 10000 := by unfold SG; omega
    rw [bS, e16]
    unfold f_X1_bestFrom_102
    rw [bS, show nI t + 1 = nI (t + 1) from nI_add t 1]
    unfold scT at f1
    by_cases hc : (scT (SG ω tal md s) t).1 < SG ω tal md s t
    · rw [if_pos hc] at f1
      rw [if_neg (fun q => by rw [iI_le (by omega) (by omega) (by omega) (by omega)] at q; omega), nI_iI t]
      exact f1
    · rw [if_neg hc] at f1
      rw [if_pos ((iI_le (by omega) (by omega) (by omega) (by omega)).mpr (by omega))]
      exact f1
theorem cb_F (hn : 400000 ≤ n) {G : Sh → Hp → Nat → Int32 → Option (Int64 × Hp × Sh)} {s : Nat} (hω : TownOK ω) (hs : SV ω s) (hG : ∀ t, t < opn ω s → BOK n z0 b c wt ω tal md st ts G (lvN s t)) (hG2 : md = true ∧ sL s = 1 → BOK n z0 b c wt ω tal md st ts G (drN ω tal s)) : BOK n z0 b c wt ω tal md st ts (F_X1_bestFrom n G) s := by
  intro z h W
  obtain ⟨⟨HX, HR, w3, w4, w5, w6, w7⟩, ⟨w8, w9, w10, w11⟩, ⟨w12, w13, w14, w15⟩, w16, ⟨⟨w17, w17'⟩, w18⟩, w19, w20⟩ := id W
  obtain ⟨a1, a2, a3, a4⟩ := e_bd hω hs
  have MXx : MX z h (b + 51) (b + 52) 1400 := ⟨kx_51 HX, rx_51_0 HX, kx_52 HX, nx_52 HX⟩
  obtain ⟨sc, v, c1, c2, c3, c4⟩ := w17 (enc s) a4
  have ho : opn ω s ≤ 4 := by have := hω.2.1; unfold opn; split <;> omega
  have cx : F_X1_bestFrom n G z h (b + 50) (nI (enc s)) = gd3 z (if lg_cmp (if sc = st then lI (v : Int) else -1) (-1) = 0 then f_X1_bestFrom_45 n G n z h (b + 50) (nI (enc s)) 0 (-1) (nI (opn ω s)) 0 else some ((if sc = st then lI (v : Int) else -1), h, z)) := by
    unfold F_X1_bestFrom
    rw [if_pos (kx_50 HX), gR_ok (kx_50 HX) (rx_50_1 HX), bS, gR_ok (kx_50 HX) (rx_50_0 HX), bS, gI_ok (kx_44 HX), bS, w15, find_ok MXx (by omega) a4 c1 (by omega) c2 c3, bS, bS, opn_ok (kx_44 HX) hω w8 w9 hs, bS]
  rw [cx]
  by_cases hst : sc = st
  · have hv := c4 w3 hst s hs rfl
    obtain ⟨v1, v2, v3, v4⟩ := scV_ok (tal := tal) (md := md) hω hs
    have ev : v = scV ω tal md s := by omega
    rw [if_pos hst, if_neg (show ¬ lg_cmp (lI (v : Int)) (-1) = 0 from fun q => by
      rw [cmp_eq, lI_to (by omega) (by omega), show (-1 : Int64).toInt = -1 from rfl] at q
      omega)]
    refine ⟨z, h, gd3_ok (by rw [ev]) ⟨Nat.le_refl _, Nat.le_refl _⟩, W, WE.refl .., v, c2, ?_⟩
    rw [c3, hst]
  · rw [if_neg hst, if_pos (show lg_cmp (-1 : Int64) (-1) = 0 by decide)]
    obtain ⟨z', h', f1, W3, E3, S3⟩ := cb_45 (n := n) (G := G) hn hω hs hG hG2 (opn ω s) 0 n z h (by omega) (by omega) W (fun t' ht' => absurd ht' (Nat.not_lt_zero t'))
    exact ⟨z', h', gd3_ok f1 E3.1.1, W3, E3, S3⟩
theorem cb_ok (hn : 400000 ≤ n) (hω : TownOK ω) : ∀ (k s : Nat), SV ω s → rk ω s < k → BOK n z0 b c wt ω tal md st ts (rc_X1_bestFrom n k) s := by
  intro k
  induction k with
  | zero => intro s _ h; omega
  | succ k ih =>
    intro s hs hr
    show BOK n z0 b c wt ω tal md st ts (F_X1_bestFrom n (rc_X1_bestFrom n k)) s
    refine cb_F hn hω hs (fun t ht => ?_) (fun q => ?_)
    · obtain ⟨q1, q2⟩ := opn_lt ht
      have := rk_lv hω hs q2 q1
      exact ih _ (lv_SV hω hs q2 q1).1 (by omega)
    · have := rk_dr (tal := tal) hω hs q.2
      exact ih _ (dr_SV hω hs).1 (by omega)
theorem best_c (hn : 400000 ≤ n) {z : Sh} {h : Hp} (W : WayD z0 b c z h wt ω tal md st ts) {s : Nat} (hs : SV ω s) : ∃ z' h', f_X1_bestFrom n z h (b + 50) (nI (enc s)) = some (lI (scV ω tal md s : Int), h', z') ∧ WayD z0 b c z' h' wt ω tal md st ts ∧ WE b st z h z' h' ∧ Stm (h'.J (b + 52)) st (enc s) := cb_ok hn W.2.1.2.2.1 20 s hs (by have := rk_le W.2.1.2.2.1 s; omega) z h W
end
