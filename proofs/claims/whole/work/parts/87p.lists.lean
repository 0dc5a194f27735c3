/-! ===== lists ===== -/
theorem Ex.rJ {b : Nat} {z z' : Sh} {h h' : Hp} (E : Ex b z h z' h') {r : Nat} (X : Nat → Int64) : Ex b z (h.rowJ r X) z' (h'.rowJ r X) := by
  obtain ⟨e1, e2, e3, e4, e5, e6⟩ := E
  refine ⟨e1, e2, e3, e4, fun a ha k1 k2 => ?_, e6⟩
  rw [rowJ_Jb, rowJ_Jb]
  by_cases e : a = r
  · rw [if_pos e, if_pos e]
  · rw [if_neg e, if_neg e]
    exact e5 a ha k1 k2
section
variable {n : Nat} {z0 : Sh} {b c : Nat} {wt : Nat} {ω : TT} {tal : Nat} {md : Bool} {st ts : Nat}
theorem WayD.rJ {z : Sh} {h h' : Hp} (W : WayD z0 b c z h wt ω tal md st ts) {r : Nat} (hr : b + 60 ≤ r ∧ r < b + 72) (hR : h'.2.2 = h.2.2) (hI : ∀ a, h'.I a = h.I a) (hJ : ∀ a, a ≠ r → h'.J a = h.J a) : WayD z0 b c z h' wt ω tal md st ts := by
  obtain ⟨⟨HX, HR, w3, w4, w5, w6, w7⟩, ⟨w8, w9, w10, w11⟩, ⟨w12, w13, w14, w15⟩, w16, ⟨w17, w18⟩, w19, w20⟩ := W
  have hb : b + 92 ≤ z.sz := HR.1
  have RR : ∀ a, h'.R a = h.R a := fun a => by
    show h'.2.2 a = h.2.2 a
    rw [hR]
  have w9' : TownX b z h' wt ω := by
    obtain ⟨t1, t2, t3, t4, t5, ⟨a, t6, t7⟩, a', t8, t9⟩ := w9
    refine ⟨t1, t2, by rw [hI]; exact t3, by rw [hI]; exact t4, by rw [hI]; exact t5, ⟨a, by rw [RR]; exact t6, ?_⟩, a', by rw [RR]; exact t8, ?_⟩
    · obtain ⟨l1, l2, l3, l4⟩ := t7
      exact ⟨l1, l2, l3, fun j hj => by rw [hI]; exact l4 j hj⟩
    · obtain ⟨l1, l2, l3, l4⟩ := t9
      exact ⟨l1, l2, l3, fun j hj => by rw [hI]; exact l4 j hj⟩
  refine ⟨⟨by rw [hR]; exact HX, by unfold RoomI; rw [RR, RR]; exact HR, w3, w4, w5, w6, w7⟩, ⟨by rw [RR]; exact w8, w9', w10, w11⟩, ⟨by rw [hI]; exact w12, by rw [hI]; exact w13, by rw [hI]; exact w14, by rw [hI]; exact w15⟩, by rw [hI]; exact w16, ⟨by rw [hJ _ (by omega)]; exact w17, by rw [hJ _ (by omega)]; exact w18⟩, ?_, ?_⟩
  · intro k hk mo hm
    rw [RR] at hm
    obtain ⟨m1, m2, m3, m4, m5, m6, m7, m8, m9⟩ := w19 k hk mo hm
    exact ⟨m1, m2, m3, by rw [RR]; exact m4, m5, m6, by rw [hJ _ (by omega)]; exact m7, by rw [RR]; exact m8, by rw [RR]; exact m9⟩
  · intro mo hm
    rw [RR] at hm
    obtain ⟨m1, m2, m3, m4, m5, m6, m7, m8⟩ := w20 mo hm
    exact ⟨m1, m2, m3, by rw [RR]; exact m4, m5, m6, by rw [hI]; exact m7, by rw [hJ _ (by omega)]; exact m8⟩
end
/-- what is listed for a doing -/
def lsV (p : Nat) (d : Int) : Int64 := lI (if d = 9 then 100 + (p : Int) else 10 * (p : Int) + d)
section
variable {n : Nat} {z0 : Sh} {b c : Nat} {wt : Nat} {ω : TT} {tal : Nat} {md : Bool} {st ts : Nat}
theorem CO_add {s : Nat} (hd : dO ω tal md s ≠ -1) (k : Nat) : CO ω tal md (k + 1) s = CO ω tal md k (nxB ω tal md s) := by
  show (if dO ω tal md s = -1 then -1 else CO ω tal md k (nxB ω tal md s)) = _
  rw [if_neg hd]
theorem ls_14 (hn : 400000 ≤ n) {i so sz p s0 : Nat} (hi : i < 4) (hso : so ≤ 3) (hsz : sz ≤ 40) (hp : p < 6) {zc : Sh} {hc : Hp} : ∀ (d k f s : Nat) (z : Sh) (h : Hp), k + d = 13 → d < f → rk ω s ≤ d → SV ω s → (∀ q, CO ω tal md (k + q) s0 = CO ω tal md q s) → (∀ q, q < k → CO ω tal md q s0 ≠ -1) → k ≤ sz → WayD z0 b c z h wt ω tal md st ts → Ex b zc hc z (h.rowJ (b + 65 + 2 * i) (hc.J (b + 65 + 2 * i))) → hc.I (b + 64 + 2 * i) 2 = nI so → hc.I (b + 64 + 2 * i) 3 = nI sz → b + 92 ≤ zc.sz → (∀ q, h.J (b + 65 + 2 * i) q = if q < k then cutV so (lsV p (CO ω tal md q s0)) else hc.J (b + 65 + 2 * i) q) → ∃ L z' h', f_X1_listInto_14 n f z h (b + 50) (b + 64 + 2 * i) (nI p) (nI (enc s)) (nI k) (nI k) = some (nI L, h', z') ∧ L ≤ sz ∧ (∀ q, q < L → CO ω tal md q s0 ≠ -1) ∧ (L = sz ∨ CO ω tal md L s0 = -1) ∧ WayD z0 b c z' h' wt ω tal md st ts ∧ Ex b zc hc z' (h'.rowJ (b + 65 + 2 * i) (hc.J (b + 65 + 2 * i))) ∧ (z.sz ≤ z'.sz ∧ z.sl ≤ z'.sl) ∧ ∀ q, h'.J (b + 65 + 2 * i) q = if q < L then cutV so (lsV p (CO ω tal md q s0)) else hc.J (b + 65 + 2 * i) q := by
  intro d
  induction d with
  | zero =>
    intro k f s z h hj hf hr hs hco hne hk W E t2 t3 hb hrow
    obtain ⟨f, rfl⟩ : ∃ q, f = q + 1 := ⟨f - 1, by omega⟩
    obtain rfl : k = 13 := by omega
    have e0 := dO_zero (tal := tal) (md := md) W.2.1.2.2.1 hs (by omega)
    refine ⟨13, z, h, ?_, hk, hne, Or.inr ?_, W, E, ⟨Nat.le_refl _, Nat.le_refl _⟩, hrow⟩
    · rw [f_X1_listInto_14.eq_2, if_pos (show (13 : Int32) ≤ nI 13 by decide)]
    · exact (hco 0).trans e0
  | succ d ih =>
    intro k f s z h hj hf hr hs hco hne hk W E t2 t3 hb hrow
    obtain ⟨f, rfl⟩ : ∃ q, f = q + 1 := ⟨f - 1, by omega⟩
    have HX := W.1.1
    have hω := W.2.1.2.2.1
    have oI : ∀ (zz : Sh) (hh : Hp), Ex b zc hc zz (hh.rowJ (b + 65 + 2 * i) (hc.J (b + 65 + 2 * i))) → hh.I (b + 64 + 2 * i) = hc.I (b + 64 + 2 * i) := fun zz hh E' => E'.2.2.2.1 _ (by omega) (by omega) (by omega) (by omega) (by omega) (by omega) (by omega) (by omega)
    have i3 : h.I (b + 64 + 2 * i) 3 = nI sz := by rw [oI z h E]; exact t3
    rw [f_X1_listInto_14.eq_2, if_neg (show ¬ (13 : Int32) ≤ nI k from fun q => by have := (nI_leI (a := 13) (by omega) (by omega)).mp q; omega), gI_ok (tray_K HX hi).1, bS, i3]
    by_cases cs : sz ≤ k
    · refine ⟨k, z, h, ?_, hk, hne, Or.inl (by omega), W, E, ⟨Nat.le_refl _, Nat.le_refl _⟩, hrow⟩
      rw [if_pos ((nI_leI (by omega) (by omega)).mpr cs)]
    · rw [if_neg (fun q => cs ((nI_leI (by omega) (by omega)).mp q))]
      obtain ⟨z1, h1, e1, W1, E1, -⟩ := best_c hn W hs
      have bd := dO_bd (tal := tal) (md := md) hω hs
      have HX1 := W1.1.1
      have E1' : Ex b zc hc z1 (h1.rowJ (b + 65 + 2 * i) (hc.J (b + 65 + 2 * i))) := E.trans (E1.1.rJ _)
      have jr : h1.J (b + 65 + 2 * i) = h.J (b + 65 + 2 * i) := E1.1.2.2.2.2.1 _ (by omega) (by omega) (by omega)
      rw [e1, bS]
      dsimp only
      rw [dIn_ok hω hs, bS, show (SC ω tal md 14 s).2 = dO ω tal md s from rfl]
      by_cases c1 : dO ω tal md s = -1
      · refine ⟨k, z1, h1, gd3_ok ?_ ⟨Nat.le_refl _, Nat.le_refl _⟩, hk, hne, Or.inr ((hco 0).trans c1), W1, E1', E1.1.1, fun q => by rw [jr]; exact hrow q⟩
        rw [c1, if_pos (show iI (-1) = -1 by decide)]
      · rcases dO_cs (tal := tal) (md := md) hω hs with ⟨q, -⟩ | ⟨-, -, q1, q2, -⟩
        · exact absurd q c1
        have j1 : h1.I (b + 64 + 2 * i) = hc.I (b + 64 + 2 * i) := oI z1 h1 E1'
        have tk := tray_K HX1 hi
        have TCx : TC z1 h1 (b + 64 + 2 * i) (b + 65 + 2 * i) sz (fun a => h1.J (b + 65 + 2 * i) a) := ⟨tk.1, tk.2.1, tk.2.2.1, tk.2.2.2, by rw [j1]; exact t3, hsz, fun a ha => rfl⟩
        have put : ∀ w : Int64, f_X9_put z1 h1 (b + 64 + 2 * i) (nI k) w = some (h1.setJ (b + 65 + 2 * i) k (cutV so w)) := fun w => tput_ok TCx (by rw [j1]; exact t2) hso (by omega) w
        have go : ∀ w : Int64, w = lsV p (dO ω tal md s) → ∃ L z' h', gd3 z1 (f_X1_listInto_75 n (f_X1_listInto_14 n f) z1 h1 (b + 50) (b + 64 + 2 * i) (nI p) (nI (enc s)) (nI k) (nI k) (iI (dO ω tal md s)) w (nI k) (b + 64 + 2 * i)) = some (nI L, h', z') ∧ L ≤ sz ∧ (∀ q, q < L → CO ω tal md q s0 ≠ -1) ∧ (L = sz ∨ CO ω tal md L s0 = -1) ∧ WayD z0 b c z' h' wt ω tal md st ts ∧ Ex b zc hc z' (h'.rowJ (b + 65 + 2 * i) (hc.J (b + 65 + 2 * i))) ∧ (z.sz ≤ z'.sz ∧ z.sl ≤ z'.sl) ∧ ∀ q, h'.J (b + 65 + 2 * i) q = if q < L then cutV so (lsV p (CO ω tal md q s0)) else hc.J (b + 65 + 2 * i) q := fun w hw => by
          have W2 : WayD z0 b c z1 (h1.setJ (b + 65 + 2 * i) k (cutV so w)) wt ω tal md st ts := W1.rJ (r := b + 65 + 2 * i) (by omega) rfl (fun _ => rfl) (fun a ha => by rw [setJ_J, if_neg ha])
          have rr : (h1.setJ (b + 65 + 2 * i) k (cutV so w)).rowJ (b + 65 + 2 * i) (hc.J (b + 65 + 2 * i)) = h1.rowJ (b + 65 + 2 * i) (hc.J (b + 65 + 2 * i)) := rowJ_rowJ h1 (b + 65 + 2 * i) (vp_updL (h1.J (b + 65 + 2 * i)) k (cutV so w)) _
          obtain ⟨L, z', h', g1, g2, g3, g4, g5, g6, g7, g8⟩ := ih (k + 1) f (nxB ω tal md s) z1 (h1.setJ (b + 65 + 2 * i) k (cutV so w)) (by omega) (by omega) (by omega) q1 (fun q => by
            rw [show k + 1 + q = k + (q + 1) by omega, hco (q + 1), CO_add c1]) (fun q hq => by
            by_cases e : q = k
            · rw [e]
              have := hco 0
              rw [Nat.add_zero] at this
              rw [this]
              exact c1
            · exact hne q (by omega)) (by omega) W2 (by rw [rr]; exact E1') t2 t3 hb (fun q => by
            rw [setJ_J, if_pos rfl]
            by_cases e : q = k
            · have := hco 0
              rw [Nat.add_zero] at this
              rw [e, if_pos (by omega), this, show vp_updL (h1.J (b + 65 + 2 * i)) k (cutV so w) k = cutV so w from if_pos rfl, hw]
              rfl
            · rw [show vp_updL (h1.J (b + 65 + 2 * i)) k (cutV so w) q = h1.J (b + 65 + 2 * i) q from if_neg e, jr, hrow q]
              by_cases e2 : q < k
              · rw [if_pos e2, if_pos (by omega)]
              · rw [if_neg e2, if_neg (by omega)])
          refine ⟨L, z', h', gd3_ok ?_ g7, g2, g3, g4, g5, g6, ⟨by have := E1.1.1.1; omega, by have := E1.1.1.2; omega⟩, g8⟩
          unfold f_X1_listInto_75
          rw [put w, bS, bS, caft_ok W2 hs c1, bS, bS, show nI k + 1 = nI (k + 1) from nI_add k 1]
          exact g1
        rw [if_neg (show ¬ iI (dO ω tal md s) = -1 from fun q => by rw [iIm1, iI_eq (by omega) (by omega) (by omega) (by omega)] at q; exact c1 q)]
        by_cases c9 : dO ω tal md s = 9
        · rw [if_pos (show iI (dO ω tal md s) = 9 by rw [c9]; decide)]
          refine go _ ?_
          unfold lsV
          rw [if_pos c9, show (100 : Int32) = nI 100 from rfl, nI_add, nI_iI, iI_64 (by omega) (by omega)]
          congr 1
        · rw [if_neg (show ¬ iI (dO ω tal md s) = 9 from fun q => by rw [show (9 : Int32) = iI 9 by decide, iI_eq (by omega) (by omega) (by omega) (by omega)] at q; exact c9 q)]
          refine go _ ?_
          unfold lsV
          rw [if_neg c9, show (10 : Int32) = nI 10 from rfl, nI_mul, nI_iI, iI_add, iI_64 (by omega) (by omega)]
          congr 1
          omega
end
