/-! ===== town, 6: both readers side by side ===== -/
def okB (w : Nat) (f : Nat → Int) : Prop := ∀ k, k < (if w = 1 then 7 else 2) → -1000000 ≤ f k ∧ f k ≤ 1000000
def gdC (w : Nat) (C : List Nat) : Prop := ∀ c ∈ C, 1000 ≤ c → c < 1007 → c < 1000 + (if w = 1 then 7 else 2)
def gdN (w q : Nat) (C : List Nat) : Prop := gdC w C ∧ ∀ f S, okB w f → S.length + q ≤ 64 → ∃ v, rn f C S = some (v :: S) ∧ -1000000 ≤ v ∧ v ≤ 1000000
def gdT (w q : Nat) (C : List Nat) : Prop := gdC w C ∧ ∀ f S, okB w f → S.length + q ≤ 64 → ∃ v, rn f C S = some (v :: S) ∧ (v = 0 ∨ v = 1)
theorem rn_app (f : Nat → Int) : ∀ (A B : List Nat) (S : List Int), rn f (A ++ B) S = (rn f A S).bind (rn f B) := by
  intro A
  induction A with
  | nil => exact fun B S => rfl
  | cons a A ih =>
    intro B S
    show (rn1 f a S).bind (rn f (A ++ B)) = ((rn1 f a S).bind (rn f A)).bind (rn f B)
    cases rn1 f a S with
    | none => rfl
    | some s => exact ih B s
theorem rn_one (f : Nat → Int) (c : Nat) (S : List Int) : rn f [c] S = rn1 f c S := by
  show (rn1 f c S).bind (rn f []) = rn1 f c S
  cases rn1 f c S <;> rfl
theorem gdC_app {w : Nat} {A B : List Nat} (h1 : gdC w A) (h2 : gdC w B) : gdC w (A ++ B) := fun c hc => by
  rcases List.mem_append.mp hc with q | q
  · exact h1 c q
  · exact h2 c q
theorem gdC_op {w c : Nat} (h : c < 1000 ∨ 1007 ≤ c) : gdC w [c] := fun x hx h1 h2 => by
  have : x = c := by simpa using hx
  omega
theorem clM_in (v : Int) : -1000000 ≤ clM v ∧ clM v ≤ 1000000 := by
  unfold clM
  repeat' split
  all_goals omega
theorem gdN.mono {w q q' : Nat} {C : List Nat} (h : gdN w q C) (hq : q ≤ q') : gdN w q' C := ⟨h.1, fun f S h1 h2 => h.2 f S h1 (by omega)⟩
theorem gdT.mono {w q q' : Nat} {C : List Nat} (h : gdT w q C) (hq : q ≤ q') : gdT w q' C := ⟨h.1, fun f S h1 h2 => h.2 f S h1 (by omega)⟩
theorem rn1_op {f : Nat → Int} {c : Nat} {x y : Int} {S : List Int} (hc : 3000 ≤ c ∧ c ≤ 3008 ∧ c ≠ 3006) (hx : -1000000 ≤ x ∧ x ≤ 1000000) (hy : -1000000 ≤ y ∧ y ≤ 1000000) (ht : 3007 ≤ c → (x = 0 ∨ x = 1) ∧ (y = 0 ∨ y = 1)) : rn1 f c (y :: x :: S) = some (opV c x y :: S) := by
  unfold rn1
  rw [if_neg (by omega), if_neg (by omega), if_neg (by omega), if_neg (by omega), if_pos (by omega)]
  show (if _ then _ else _) = _
  rw [if_pos ⟨⟨hx, hy⟩, ht⟩]
theorem gdN_bin {w q c : Nat} {A B : List Nat} (hA : gdN w q A) (hB : gdN w (q - 1) B) (hq : 1 ≤ q) (hc : c = 3000 ∨ c = 3001 ∨ c = 3002) : gdN w q (A ++ (B ++ [c])) := by
  refine ⟨gdC_app hA.1 (gdC_app hB.1 (gdC_op (by omega))), fun f S h1 h2 => ?_⟩
  obtain ⟨x, e1, x1, x2⟩ := hA.2 f S h1 h2
  obtain ⟨y, e2, y1, y2⟩ := hB.2 f (x :: S) h1 (by rw [List.length_cons]; omega)
  refine ⟨opV c x y, ?_, ?_⟩
  · rw [rn_app, e1, bS, rn_app, e2, bS, rn_one, rn1_op (by omega) ⟨x1, x2⟩ ⟨y1, y2⟩ (by omega)]
  · rcases hc with rfl | rfl | rfl
    · exact clM_in _
    · exact clM_in _
    · exact clM_in _
theorem gdT_cmp {w q c : Nat} {A B : List Nat} (hA : gdN w q A) (hB : gdN w (q - 1) B) (hq : 1 ≤ q) (hc : c = 3003 ∨ c = 3004 ∨ c = 3005) : gdT w q (A ++ (B ++ [c])) := by
  refine ⟨gdC_app hA.1 (gdC_app hB.1 (gdC_op (by omega))), fun f S h1 h2 => ?_⟩
  obtain ⟨x, e1, x1, x2⟩ := hA.2 f S h1 h2
  obtain ⟨y, e2, y1, y2⟩ := hB.2 f (x :: S) h1 (by rw [List.length_cons]; omega)
  refine ⟨opV c x y, ?_, ?_⟩
  · rw [rn_app, e1, bS, rn_app, e2, bS, rn_one, rn1_op (by omega) ⟨x1, x2⟩ ⟨y1, y2⟩ (by omega)]
  · rcases hc with rfl | rfl | rfl
    · show (if x = y then (1 : Int) else 0) = 0 ∨ (if x = y then (1 : Int) else 0) = 1
      split <;> simp
    · show (if x < y then (1 : Int) else 0) = 0 ∨ (if x < y then (1 : Int) else 0) = 1
      split <;> simp
    · show (if y < x then (1 : Int) else 0) = 0 ∨ (if y < x then (1 : Int) else 0) = 1
      split <;> simp
theorem gdT_bin {w q c : Nat} {A B : List Nat} (hA : gdT w q A) (hB : gdT w (q - 1) B) (hq : 1 ≤ q) (hc : c = 3007 ∨ c = 3008) : gdT w q (A ++ (B ++ [c])) := by
  refine ⟨gdC_app hA.1 (gdC_app hB.1 (gdC_op (by omega))), fun f S h1 h2 => ?_⟩
  obtain ⟨x, e1, x1⟩ := hA.2 f S h1 h2
  obtain ⟨y, e2, y1⟩ := hB.2 f (x :: S) h1 (by rw [List.length_cons]; omega)
  refine ⟨opV c x y, ?_, ?_⟩
  · rw [rn_app, e1, bS, rn_app, e2, bS, rn_one, rn1_op (by omega) (by omega) (by omega) (fun _ => ⟨x1, y1⟩)]
  · rcases hc with rfl | rfl
    · show (if x = 1 ∧ y = 1 then (1 : Int) else 0) = 0 ∨ (if x = 1 ∧ y = 1 then (1 : Int) else 0) = 1
      split <;> simp
    · show (if x = 1 ∨ y = 1 then (1 : Int) else 0) = 0 ∨ (if x = 1 ∨ y = 1 then (1 : Int) else 0) = 1
      split <;> simp
theorem gdT_not {w q : Nat} {A : List Nat} (hA : gdT w q A) : gdT w q (A ++ [3006]) := by
  refine ⟨gdC_app hA.1 (gdC_op (by omega)), fun f S h1 h2 => ?_⟩
  obtain ⟨x, e1, x1⟩ := hA.2 f S h1 h2
  refine ⟨1 - x, ?_, by omega⟩
  rw [rn_app, e1, bS, rn_one]
  unfold rn1
  rw [if_neg (by omega), if_neg (by omega), if_pos rfl]
  show (if _ then _ else _) = _
  rw [if_pos x1]
theorem gdN_if {w q : Nat} {A B C : List Nat} (hA : gdT w q A) (hB : gdN w (q - 1) B) (hC : gdN w (q - 2) C) (hq : 2 ≤ q) : gdN w q (A ++ (B ++ (C ++ [3009]))) := by
  refine ⟨gdC_app hA.1 (gdC_app hB.1 (gdC_app hC.1 (gdC_op (by omega)))), fun f S h1 h2 => ?_⟩
  obtain ⟨x, e1, x1⟩ := hA.2 f S h1 h2
  obtain ⟨y, e2, y1, y2⟩ := hB.2 f (x :: S) h1 (by rw [List.length_cons]; omega)
  obtain ⟨u, e3, u1, u2⟩ := hC.2 f (y :: x :: S) h1 (by rw [List.length_cons, List.length_cons]; omega)
  refine ⟨if x = 1 then y else u, ?_, ?_⟩
  · rw [rn_app, e1, bS, rn_app, e2, bS, rn_app, e3, bS, rn_one]
    unfold rn1
    rw [if_neg (by omega), if_neg (by omega), if_neg (by omega), if_pos rfl]
    show (if _ then _ else _) = _
    rw [if_pos x1]
  · split
    · exact ⟨y1, y2⟩
    · exact ⟨u1, u2⟩
theorem gdN_num {w c : Nat} (hc : c < 1000) : gdN w 1 [c] := by
  refine ⟨gdC_op (by omega), fun f S h1 h2 => ⟨c, ?_, by omega, by omega⟩⟩
  rw [rn_one]
  unfold rn1
  rw [if_pos hc, if_pos (by omega)]
theorem fct_lt {w k : Nat} (h : fct w k ≠ 9) : fct w k < (if w = 1 then 7 else 2) := by
  unfold fct at h ⊢
  repeat' split
  all_goals first | omega | (simp_all; done) | skip
  all_goals (repeat' split at h) <;> first | omega | simp_all
theorem gdN_fact {w k : Nat} (hc : k < (if w = 1 then 7 else 2)) : gdN w 1 [1000 + k] := by
  have h7 : k < 7 := by
    split at hc <;> omega
  refine ⟨fun x hx h1 h2 => ?_, fun f S h1 h2 => ⟨f k, ?_, h1 k hc⟩⟩
  · have : x = 1000 + k := by simpa using hx
    omega
  · rw [rn_one]
    unfold rn1
    rw [if_neg (by omega), if_pos (by omega), if_pos (by omega), show 1000 + k - 1000 = k by omega]
def Jn (b : Nat) (sv : Nat → Nat) (z : Sh) (tx : Nat → Nat) (N w P : Nat) (T : Tk) (L : List Nat) (h : Hp) (ok : List Nat → Prop) (cl : Option (Int32 × Hp)) (rf : Sh → Hp → Option Hp) : Prop :=
  (∃ h' fl pl, cl = some (0, h') ∧ Fc b h h' ∧ CF b w fl pl h' ∧ ∀ z' g M, RS b sv z' tx N w T M g → M.length ≤ P → ∃ g', rf z' g = some g' ∧ FrR b g g' ∧ RF b z' fl pl g') ∨
  (∃ h' T' C, cl = some (1, h') ∧ Fc b h h' ∧ CS b sv z tx N w T' (L ++ C) h' ∧ ok C ∧ P + C.length ≤ T'.1 ∧ ∀ z' g M, RS b sv z' tx N w T M g → M.length ≤ P → ∃ g', rf z' g = some g' ∧ FrR b g g' ∧ RS b sv z' tx N w T' (M ++ C) g')
section
variable {n b N w P : Nat} {sv : Nat → Nat} {z : Sh} {tx : Nat → Nat} {T : Tk} {L : List Nat} {h : Hp}
theorem Jn.bind {P1 : Nat} {ok ok1 : List Nat → Prop} {cl cl1 : Option (Int32 × Hp)} {rf rf1 : Sh → Hp → Option Hp} {kc : Int32 → Hp → Option (Int32 × Hp)} {kr : Sh → Hp → Option Hp} (J : Jn b sv z tx N w P1 T L h ok1 cl1 rf1) (hP : P ≤ P1)
    (hcl : ∀ x h1, cl1 = some (x, h1) → cl = kc x h1) (hrf : ∀ z' g M g1, RS b sv z' tx N w T M g → rf1 z' g = some g1 → rf z' g = kr z' g1)
    (hF : ∀ h1 fl pl, CF b w fl pl h1 → ∃ h2, kc 0 h1 = some (0, h2) ∧ Fc b h1 h2 ∧ CF b w fl pl h2)
    (hRF : ∀ z' g fl pl, RF b z' fl pl g → kr z' g = some g)
    (hS : ∀ h1 T1 C, CS b sv z tx N w T1 (L ++ C) h1 → ok1 C → P1 + C.length ≤ T1.1 → Jn b sv z tx N w (P + C.length) T1 (L ++ C) h1 (fun C' => ok (C ++ C')) (kc 1 h1) kr) : Jn b sv z tx N w P T L h ok cl rf := by
  rcases J with ⟨h1, fl, pl, e1, e2, e3, e4⟩ | ⟨h1, T1, C, e1, e2, e3, e4, e5, e6⟩
  · obtain ⟨h2, f1, f2, f3⟩ := hF h1 fl pl e3
    refine Or.inl ⟨h2, fl, pl, (hcl _ _ e1).trans f1, e2.tr f2, f3, fun z' g M R hM => ?_⟩
    obtain ⟨g1, r1, r2, r3⟩ := e4 z' g M R (by omega)
    exact ⟨g1, (hrf _ _ _ _ R r1).trans (hRF _ _ _ _ r3), r2, r3⟩
  · rcases hS h1 T1 C e3 e4 e5 with ⟨h2, fl, pl, f1, f2, f3, f4⟩ | ⟨h2, T2, C2, f1, f2, f3, f4, f5, f6⟩
    · refine Or.inl ⟨h2, fl, pl, (hcl _ _ e1).trans f1, e2.tr f2, f3, fun z' g M R hM => ?_⟩
      obtain ⟨g1, r1, r2, r3⟩ := e6 z' g M R (by omega)
      obtain ⟨g2, t1, t2, t3⟩ := f4 z' g1 (M ++ C) r3 (by rw [List.length_append]; omega)
      exact ⟨g2, (hrf _ _ _ _ R r1).trans t1, r2.tr t2, t3⟩
    · refine Or.inr ⟨h2, T2, C ++ C2, (hcl _ _ e1).trans f1, e2.tr f2, ?_, f4, ?_, fun z' g M R hM => ?_⟩
      · rw [← List.append_assoc]
        exact f3
      · rw [List.length_append]
        omega
      · obtain ⟨g1, r1, r2, r3⟩ := e6 z' g M R (by omega)
        obtain ⟨g2, t1, t2, t3⟩ := f6 z' g1 (M ++ C) r3 (by rw [List.length_append]; omega)
        refine ⟨g2, (hrf _ _ _ _ R r1).trans t1, r2.tr t2, ?_⟩
        rw [← List.append_assoc]
        exact t3
theorem Jn.ret {ok : List Nat → Prop} (C : CS b sv z tx N w T L h) (hP : P ≤ T.1) (ho : ok []) {cl : Option (Int32 × Hp)} {rf : Sh → Hp → Option Hp} (hcl : cl = some (1, h)) (hrf : ∀ z' g M, RS b sv z' tx N w T M g → rf z' g = some g) : Jn b sv z tx N w P T L h ok cl rf := by
  refine Or.inr ⟨h, T, [], hcl, Fc.rf, ?_, ho, hP, fun z' g M R hM => ⟨g, hrf z' g M R, FrR.rf, ?_⟩⟩
  · rw [List.append_nil]
    exact C
  · rw [List.append_nil]
    exact R
theorem Jn.ok {ok ok' : List Nat → Prop} {cl : Option (Int32 × Hp)} {rf : Sh → Hp → Option Hp} (J : Jn b sv z tx N w P T L h ok cl rf) (ho : ∀ C, ok C → ok' C) : Jn b sv z tx N w P T L h ok' cl rf := by
  rcases J with q | ⟨h1, T1, C, e1, e2, e3, e4, e5, e6⟩
  · exact Or.inl q
  · exact Or.inr ⟨h1, T1, C, e1, e2, e3, ho C e4, e5, e6⟩
theorem Jn.eq {ok : List Nat → Prop} {cl cl' : Option (Int32 × Hp)} {rf rf' : Sh → Hp → Option Hp} (J : Jn b sv z tx N w P T L h ok cl rf) (h1 : cl' = cl) (h2 : ∀ z' g M, RS b sv z' tx N w T M g → rf' z' g = rf z' g) : Jn b sv z tx N w P T L h ok cl' rf' := by
  subst h1
  rcases J with ⟨h1, fl, pl, e1, e2, e3, e4⟩ | ⟨h1, T1, C, e1, e2, e3, e4, e5, e6⟩
  · exact Or.inl ⟨h1, fl, pl, e1, e2, e3, fun z' g M R hM => by
      rw [h2 z' g M R]
      exact e4 z' g M R hM⟩
  · exact Or.inr ⟨h1, T1, C, e1, e2, e3, e4, e5, fun z' g M R hM => by
      rw [h2 z' g M R]
      exact e6 z' g M R hM⟩
/-! the small steps, side by side -/
theorem Jn.next (C : CS b sv z tx N w T L h) (Z : ZC b z) (hN : N ≤ 900) (hx : ∀ j, tx j < 256) (hn : 400000 ≤ n) (hP : P ≤ T.1) (hk : T.2.2.1 ≠ 25) {ok : List Nat → Prop} {cl : Option (Int32 × Hp)} {rf : Sh → Hp → Option Hp} {kc : Hp → Option (Int32 × Hp)} {kr : Sh → Hp → Option Hp}
    (hcl : ∀ h1, f_X6_next n z h (b + 2) = some h1 → cl = kc h1) (hrf : ∀ z' g M g1, RS b sv z' tx N w T M g → f_X12_next n z' g (b + 72) = some g1 → rf z' g = kr z' g1)
    (hS : ∀ h1 T1, CS b sv z tx N w T1 L h1 → T.1 + 1 ≤ T1.1 → Jn b sv z tx N w P T1 L h1 ok (kc h1) kr) : Jn b sv z tx N w P T L h ok cl rf := by
  obtain ⟨h', e1, e2, e3⟩ := next_C C Z hN hx hn
  have g1 := tkG C.tk hk
  rcases hS h' _ e3 (by omega) with ⟨h2, fl, pl, f1, f2, f3, f4⟩ | ⟨h2, T2, C2, f1, f2, f3, f4, f5, f6⟩
  · refine Or.inl ⟨h2, fl, pl, (hcl _ e1).trans f1, e2.tr f2, f3, fun z' g M R hM => ?_⟩
    obtain ⟨g1, r1, r2, r3⟩ := next_R R hN hx hn
    obtain ⟨g2, t1, t2, t3⟩ := f4 z' g1 M r3 hM
    exact ⟨g2, (hrf _ _ _ _ R r1).trans t1, r2.tr t2, t3⟩
  · refine Or.inr ⟨h2, T2, C2, (hcl _ e1).trans f1, e2.tr f2, f3, f4, f5, fun z' g M R hM => ?_⟩
    obtain ⟨g1, r1, r2, r3⟩ := next_R R hN hx hn
    obtain ⟨g2, t1, t2, t3⟩ := f6 z' g1 M r3 hM
    exact ⟨g2, (hrf _ _ _ _ R r1).trans t1, r2.tr t2, t3⟩
theorem Jn.emit (hw : w < 2) (C : CS b sv z tx N w T L h) (Z : ZC b z) (hN : N ≤ 900) (hL : L.length ≤ P) (hP : P + 1 ≤ T.1) {c : Nat} {x : Int32} (hxx : x = iI (cC c)) {ok : List Nat → Prop} {cl : Option (Int32 × Hp)} {rf : Sh → Hp → Option Hp} {kc : Hp → Option (Int32 × Hp)} {kr : Sh → Hp → Option Hp}
    (hcl : ∀ h1, f_X6_emit z h (b + 2) x = some h1 → cl = kc h1) (hrf : ∀ z' g M g1, RS b sv z' tx N w T M g → f_X12_codes z' g (b + 72) (nI c) = some g1 → rf z' g = kr z' g1)
    (hS : ∀ h1, CS b sv z tx N w T (L ++ [c]) h1 → Jn b sv z tx N w (P + 1) T (L ++ [c]) h1 (fun C' => ok ([c] ++ C')) (kc h1) kr) : Jn b sv z tx N w P T L h ok cl rf := by
  have hT := tkT C.tk
  obtain ⟨h', e1, e2, e3⟩ := emit_C hw C Z (by omega) hxx
  rcases hS h' e3 with ⟨h2, fl, pl, f1, f2, f3, f4⟩ | ⟨h2, T2, C2, f1, f2, f3, f4, f5, f6⟩
  · refine Or.inl ⟨h2, fl, pl, (hcl _ e1).trans f1, e2.tr f2, f3, fun z' g M R hM => ?_⟩
    obtain ⟨g1, r1, r2, r3⟩ := codes_r R (c := c) (by omega)
    obtain ⟨g2, t1, t2, t3⟩ := f4 z' g1 _ r3 (by rw [List.length_append]; show M.length + 1 ≤ P + 1; omega)
    exact ⟨g2, (hrf _ _ _ _ R r1).trans t1, r2.tr t2, t3⟩
  · refine Or.inr ⟨h2, T2, [c] ++ C2, (hcl _ e1).trans f1, e2.tr f2, ?_, f4, ?_, fun z' g M R hM => ?_⟩
    · rw [← List.append_assoc]
      exact f3
    · rw [List.length_append]
      show P + (1 + C2.length) ≤ _
      omega
    · obtain ⟨g1, r1, r2, r3⟩ := codes_r R (c := c) (by omega)
      obtain ⟨g2, t1, t2, t3⟩ := f6 z' g1 _ r3 (by rw [List.length_append]; show M.length + 1 ≤ P + 1; omega)
      refine ⟨g2, (hrf _ _ _ _ R r1).trans t1, r2.tr t2, ?_⟩
      rw [← List.append_assoc]
      exact t3
theorem Jn.take (C : CS b sv z tx N w T L h) (Z : ZC b z) (hN : N ≤ 900) (hx : ∀ j, tx j < 256) (hn : 400000 ≤ n) (hP : P ≤ T.1) {s k : Nat} (h1 : 11 ≤ s) (h2 : s < 46) (hsk : stK s = k) {ok : List Nat → Prop} {cl : Option (Int32 × Hp)} {rf : Sh → Hp → Option Hp} {kc : Int32 → Hp → Option (Int32 × Hp)} {kr : Sh → Hp → Option Hp}
    (hcl : ∀ x h1, f_X6_take n z h (b + 2) (z.st s) = some (x, h1) → cl = kc x h1) (hr1 : ∀ z' g M g1, RS b sv z' tx N w T M g → f_X12_eats n z' g (b + 72) (nI k) = some (1, g1) → rf z' g = kr z' g1)
    (hr0 : ∀ z' g M g1, RS b sv z' tx N w T M g → f_X12_eats n z' g (b + 72) (nI k) = some (0, g) → f_X12_fails z' g (b + 72) 2 = some g1 → rf z' g = kr z' g1)
    (hF : ∀ h1 fl pl, CF b w fl pl h1 → ∃ h2, kc 0 h1 = some (0, h2) ∧ Fc b h1 h2 ∧ CF b w fl pl h2)
    (hRF : ∀ z' g fl pl, RF b z' fl pl g → kr z' g = some g)
    (hS : ∀ h1 T1, CS b sv z tx N w T1 L h1 → T.1 + 1 ≤ T1.1 → Jn b sv z tx N w P T1 L h1 ok (kc 1 h1) kr) : Jn b sv z tx N w P T L h ok cl rf := by
  have hs : stK s < 50 ∧ stK s ≠ 25 := by
    rcases stK_ok s h2 h1 with q | q <;> omega
  by_cases q : T.2.2.1 = stK s
  · obtain ⟨h', e1, e2, e3⟩ := take_t C Z hN hx hn h1 h2 q
    have g1 := tkG C.tk (by omega)
    rcases hS h' _ e3 (by omega) with ⟨h2, fl, pl, f1, f2, f3, f4⟩ | ⟨h2, T2, C2, f1, f2, f3, f4, f5, f6⟩
    · refine Or.inl ⟨h2, fl, pl, (hcl _ _ e1).trans f1, e2.tr f2, f3, fun z' g M R hM => ?_⟩
      obtain ⟨g1, r1, r2, r3⟩ := eats_t R hN hx hn (k := k) (by omega) (by omega)
      obtain ⟨g2, t1, t2, t3⟩ := f4 z' g1 M r3 hM
      exact ⟨g2, (hr1 _ _ _ _ R r1).trans t1, r2.tr t2, t3⟩
    · refine Or.inr ⟨h2, T2, C2, (hcl _ _ e1).trans f1, e2.tr f2, f3, f4, f5, fun z' g M R hM => ?_⟩
      obtain ⟨g1, r1, r2, r3⟩ := eats_t R hN hx hn (k := k) (by omega) (by omega)
      obtain ⟨g2, t1, t2, t3⟩ := f6 z' g1 M r3 hM
      exact ⟨g2, (hr1 _ _ _ _ R r1).trans t1, r2.tr t2, t3⟩
  · obtain ⟨h', e1, e2, e3⟩ := take_f C Z hN hx hn h1 h2 q
    obtain ⟨h3, f1, f2, f3⟩ := hF h' _ _ e3
    refine Or.inl ⟨h3, _, _, (hcl _ _ e1).trans f1, e2.tr f2, f3, fun z' g M R hM => ?_⟩
    obtain ⟨g', r1, r2, r3⟩ := fails_r R (v := 2) (by decide) (by decide)
    exact ⟨g', (hr0 _ _ _ _ R (eats_f R (by omega) (by omega)) r1).trans (hRF _ _ _ _ r3), r2, r3⟩
theorem Jn.wrong (C : CS b sv z tx N w T L h) (Z : ZC b z) (hN : N ≤ 900) {ok : List Nat → Prop} {v : Nat} (h1 : 0 < v) (h2 : v < 5) : Jn b sv z tx N w P T L h ok (f_X6_wrong z h (b + 2) (nI v)) (fun z' g => f_X12_fails z' g (b + 72) (nI v)) := by
  obtain ⟨h', e1, e2, e3⟩ := wrong_c C Z hN h1 h2
  exact Or.inl ⟨h', _, _, e1, e2, e3, fun z' g M R hM => fails_r R h1 h2⟩
/-- deeper: what follows is the caller's -/
theorem Jn.deep (C : CS b sv z tx N w T L h) (Z : ZC b z) (hN : N ≤ 900) (hx : ∀ j, tx j < 256) (hn : 400000 ≤ n) (hP : P ≤ T.1) (hk : T.2.2.1 ≠ 25) {d : Nat} (hd : d ≤ 6) {ok : List Nat → Prop} {cl : Option (Int32 × Hp)} {rf : Sh → Hp → Option Hp} {kc : Int32 → Hp → Option (Int32 × Hp)} {kr : Sh → Hp → Option Hp}
    (hcl : ∀ x h1, f_X6_deeper n z h (b + 2) (nI d) = some (x, h1) → cl = kc x h1) (hr0 : ∀ z' g M g1, RS b sv z' tx N w T M g → f_X12_goesIn n z' g (b + 72) (nI d) = some (0, g1) → rf z' g = some g1) (hr1 : ∀ z' g M g1, RS b sv z' tx N w T M g → f_X12_goesIn n z' g (b + 72) (nI d) = some (1, g1) → rf z' g = kr z' g1)
    (hF : ∀ h1 fl pl, CF b w fl pl h1 → ∃ h2, kc 0 h1 = some (0, h2) ∧ Fc b h1 h2 ∧ CF b w fl pl h2)
    (hS : d < 6 → ∀ h1 T1, CS b sv z tx N w T1 L h1 → T.1 + 1 ≤ T1.1 → Jn b sv z tx N w P T1 L h1 ok (kc 1 h1) kr) : Jn b sv z tx N w P T L h ok cl rf := by
  rcases (by omega : d < 6 ∨ d = 6) with q | rfl
  · obtain ⟨h', e1, e2, e3⟩ := deep_t C Z hN hx hn q
    have g1 := tkG C.tk hk
    have hrf' : ∀ z' g M, RS b sv z' tx N w T M g → ∃ g', FrR b g g' ∧ RS b sv z' tx N w (tkN tx N T.2.1) M g' ∧ rf z' g = kr z' g' := by
      intro z' g M R
      obtain ⟨g', r1, r2, r3⟩ := goes_t R hN hx hn q
      exact ⟨g', r2, r3, hr1 _ _ _ _ R r1⟩
    rcases hS q h' _ e3 (by omega) with ⟨h2, fl, pl, f1, f2, f3, f4⟩ | ⟨h2, T2, C2, f1, f2, f3, f4, f5, f6⟩
    · refine Or.inl ⟨h2, fl, pl, (hcl _ _ e1).trans f1, e2.tr f2, f3, fun z' g M R hM => ?_⟩
      obtain ⟨g1, r2, r3, r1⟩ := hrf' z' g M R
      obtain ⟨g2, t1, t2, t3⟩ := f4 z' g1 M r3 hM
      exact ⟨g2, r1.trans t1, r2.tr t2, t3⟩
    · refine Or.inr ⟨h2, T2, C2, (hcl _ _ e1).trans f1, e2.tr f2, f3, f4, f5, fun z' g M R hM => ?_⟩
      obtain ⟨g1, r2, r3, r1⟩ := hrf' z' g M R
      obtain ⟨g2, t1, t2, t3⟩ := f6 z' g1 M r3 hM
      exact ⟨g2, r1.trans t1, r2.tr t2, t3⟩
  · obtain ⟨h', e1, e2, e3⟩ := deep_f (n := n) C Z hN
    obtain ⟨h2, f1, f2, f3⟩ := hF h' _ _ e3
    refine Or.inl ⟨h2, _, _, (hcl _ _ e1).trans f1, e2.tr f2, f3, fun z' g M R hM => ?_⟩
    obtain ⟨g', r1, r2, r3⟩ := goes_f (n := n) R
    exact ⟨g', hr0 _ _ _ _ R r1, r2, r3⟩
end
