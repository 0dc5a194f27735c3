/-! ===== what stands behind the rows: stands, towns, people ===== -/
def sN (l o y la st : Nat) : Nat := (((l - 1) * 7 + o) * 7 + y) * 35 + (if la = 9 then 4 else la) * 7 + st
def sL (s : Nat) : Nat := 1 + s / 1715
def sO (s : Nat) : Nat := s / 245 % 7
def sY (s : Nat) : Nat := s / 35 % 7
def sA (s : Nat) : Nat := if s / 7 % 5 = 4 then 9 else s / 7 % 5
def sT (s : Nat) : Nat := s % 7
/-- a town: years, trades, dies, the law of worth, the law of growing -/
abbrev TT : Type := Nat × Nat × Nat × List Nat × List Nat
def tY (τ : TT) : Nat := τ.1
def tD (τ : TT) : Nat := τ.2.1
def tX (τ : TT) : Nat := τ.2.2.1
def tW (τ : TT) : List Nat := τ.2.2.2.1
def tG (τ : TT) : List Nat := τ.2.2.2.2
def lawV (L : List Nat) (f : Nat → Int) : Int := match rn f L [] with
  | some (v :: _) => v
  | _ => 0
def LawOK (nf : Nat) (L : List Nat) : Prop := L.length ≤ 900 ∧ (∀ c ∈ L, 1000 ≤ c → c < 1007 → c < 1000 + nf) ∧ ∀ f : Nat → Int, (∀ k, k < nf → -1000000 ≤ f k ∧ f k ≤ 1000000) → ∃ v, rn f L [] = some [v] ∧ -1000000 ≤ v ∧ v ≤ 1000000
def TownOK (τ : TT) : Prop := (1 ≤ tY τ ∧ tY τ ≤ 6) ∧ (1 ≤ tD τ ∧ tD τ ≤ 4) ∧ tX τ ≤ 10 ∧ LawOK 7 (tW τ) ∧ LawOK 2 (tG τ)
/-- the facts of a stand -/
def fcW (tal s t : Nat) : Nat → Int := fun k => match k with | 0 => tal | 1 => sY s | 2 => t | 3 => sA s | 4 => sT s | 5 => sL s | _ => sO s
def fcG (tal y : Nat) : Nat → Int := fun k => match k with | 0 => tal | _ => y
def cl9 (v : Int) : Int := if -9 ≤ v then (if v ≤ 9 then v else 9) else -9
def wV (τ : TT) (tal s t : Nat) : Int := cl9 (lawV (tW τ) (fcW tal s t))
def gV (τ : TT) (tal y : Nat) : Nat := (if 0 ≤ lawV (tG τ) (fcG tal y) then (if lawV (tG τ) (fcG tal y) ≤ tY τ then lawV (tG τ) (fcG tal y) else tY τ) else 0).toNat
def lvN (s t : Nat) : Nat := sN (sL s) (sO s) (sY s + 1) t (if sA s = t then sT s + 1 else 1)
def drN (τ : TT) (tal s : Nat) : Nat := sN 2 (sY s) (gV τ tal (sY s)) 9 0
def SOK (τ : TT) (l o y la st : Nat) : Prop := ((l = 1 ∧ o = 0) ∨ (l = 2 ∧ o ≤ tY τ)) ∧ y ≤ tY τ ∧ ((la = 9 ∧ st = 0) ∨ (la < tD τ ∧ 1 ≤ st ∧ st ≤ y))
def SV (τ : TT) (s : Nat) : Prop := s < 3430 ∧ SOK τ (sL s) (sO s) (sY s) (sA s) (sT s)
/-- the class's number of a stand -/
def enc (s : Nat) : Nat := ((if sL s = 2 then 1 + sO s else 0) * 7 + sY s) * 25 + (if sA s = 9 then 0 else sA s * 6 + sT s)
/-! what can be had from a stand on: score and first doing -/
def scT (g : Nat → Int) : Nat → Int × Int
  | 0 => (0, -1)
  | j + 1 => if (scT g j).1 < g j then (g j, (j : Int)) else scT g j
def opn (τ : TT) (s : Nat) : Nat := if sY s < tY τ then tD τ else 0
def SC (τ : TT) (tal : Nat) (md : Bool) : Nat → Nat → Int × Int
  | 0, _ => (0, -1)
  | k + 1, s => if (md = true ∧ sL s = 1) ∧ (scT (fun t => (SC τ tal md k (lvN s t)).1 + 16 * wV τ tal s t - 1) (opn τ s)).1 < (SC τ tal md k (drN τ tal s)).1 - 1 then ((SC τ tal md k (drN τ tal s)).1 - 1, 9) else scT (fun t => (SC τ tal md k (lvN s t)).1 + 16 * wV τ tal s t - 1) (opn τ s)
def mxT (g : Nat → Int) (v : Int) : Nat → Int
  | 0 => v
  | j + 1 => if mxT g v j < g j then g j else mxT g v j
/-- tenths at a stand -/
def tn (τ : TT) (s : Nat) : Nat := (if sL s = 1 then 2 else 1) * tY τ - sY s
def mD (τ : TT) (tal : Nat) (md : Bool) (m : Nat → Int) (s ten : Nat) : Int := if md = true ∧ sL s = 1 then m (drN τ tal s) * 10 ^ (ten - tn τ (drN τ tal s)) else 0
def mY (τ : TT) (tal : Nat) (md : Bool) (m : Nat → Int) (s t : Nat) : Int := (10 - (tX τ : Int)) * (wV τ tal s t * 10 ^ (tn τ s - 1) + m (lvN s t)) + (tX τ : Int) * mD τ tal md m s (tn τ s - 1)
def MN (τ : TT) (tal : Nat) (md : Bool) : Nat → Nat → Int
  | 0, _ => 0
  | k + 1, s => mxT (fun t => mY τ tal md (MN τ tal md k) s t) (mD τ tal md (MN τ tal md k) s (tn τ s)) (opn τ s)
def hD (τ : TT) (tal : Nat) (md : Bool) (m : Nat → Int → Int) (s : Nat) (need : Int) (ten : Nat) : Int := if md = true ∧ sL s = 1 then m (drN τ tal s) need * 10 ^ (ten - tn τ (drN τ tal s)) else 0
def hY (τ : TT) (tal : Nat) (md : Bool) (m : Nat → Int → Int) (s : Nat) (need : Int) (t : Nat) : Int := (10 - (tX τ : Int)) * m (lvN s t) (need - wV τ tal s t) + (tX τ : Int) * hD τ tal md m s need (tn τ s - 1)
def HP (τ : TT) (tal : Nat) (md : Bool) : Nat → Nat → Int → Int
  | 0, s, need => if need ≤ 0 then 10 ^ (tn τ s) else 0
  | k + 1, s, need => if need ≤ 0 then 10 ^ (tn τ s) else mxT (fun t => hY τ tal md (HP τ tal md k) s need t) (hD τ tal md (HP τ tal md k) s need (tn τ s)) (opn τ s)
/-! ===== towns and people in the rows ===== -/
def LawX (b : Nat) (z : Sh) (h : Hp) (a : Nat) (L : List Nat) : Prop := (a < b ∨ (b + 92 ≤ a ∧ a < z.sz)) ∧ (z.K a = 14 ∨ z.K a = 34) ∧ z.N a = L.length ∧ ∀ j, j < L.length → h.I a j = iI (cC (L.getD j 0))
def TownX (b : Nat) (z : Sh) (h : Hp) (t : Nat) (τ : TT) : Prop :=
  (t = b + 8 ∨ t = b + 47 ∨ (b + 92 ≤ t ∧ t < z.sz)) ∧ z.K t = 8 ∧ h.I t 0 = nI (tY τ) ∧ h.I t 1 = nI (tD τ) ∧ h.I t 4 = nI (tX τ) ∧ (∃ a, h.R t 8 = some a ∧ LawX b z h a (tW τ)) ∧ ∃ a, h.R t 9 = some a ∧ LawX b z h a (tG τ)
def LawA (A : Nat → Int32) (i : Nat) (L : List Nat) (d : Nat) : Prop := (A (5 + i) = nI 0 ∧ L = [d]) ∨ (A (5 + i) = nI 1 ∧ ∃ fr, A (7 + i) = nI fr ∧ A (9 + i) = nI L.length ∧ fr + L.length ≤ 900 ∧ ∀ k, k < L.length → A (558 + fr + k) = nI (L.getD k 0))
def TownA (A : Nat → Int32) (τ : TT) : Prop := A 1 = nI (tY τ) ∧ A 2 = nI (tD τ) ∧ A 4 = nI (tX τ) ∧ LawA A 0 (tW τ) 1 ∧ LawA A 1 (tG τ) 0
def pos (w : Nat) : Nat := match w with | 0 => 18 | 1 => 24 | 2 => 30 | 3 => 36 | 4 => 42 | 5 => 48 | 6 => 54 | 7 => 11 | _ => 60
def PeopleX (o r A : Nat → Int32) (P : Nat) : Prop := o 1 = nI P ∧ o 2 = A 17 ∧ ∀ p, p < P → ∀ w, w < 9 → r (9 * p + w) = A (pos w + p)
def PerOK (τ : TT) (A : Nat → Int32) (p : Nat) : Prop :=
  ∃ (y l la st o tal pl fe : Nat) (hs : Int), A (18 + p) = nI y ∧ A (24 + p) = nI l ∧ A (30 + p) = iI hs ∧ A (36 + p) = nI la ∧ A (42 + p) = nI st ∧ A (48 + p) = nI o ∧ A (54 + p) = nI tal ∧ A (60 + p) = nI pl ∧ A (11 + p) = nI fe ∧ SOK τ l o y la st ∧ tal ≤ 9 ∧ pl ≤ 99 ∧ (l = 2 → pl = 0) ∧ fe ≤ 9 ∧ (-9 * ((o : Int) + y) ≤ hs - pl ∧ hs - pl ≤ 9 * ((o : Int) + y))
def PplI (τ : TT) (P : Nat) (o r A : Nat → Int32) : Prop := PeopleX o r A P ∧ ∀ p, p < P → PerOK τ A p
/-- the row as it was ahead of the i-th kept call -/
def ovr (A : Nat → Int32) (i : Nat) : Nat → Int32 := fun k => if 17 ≤ k ∧ k < 66 then A (67 + 49 * i + (k - 17)) else A k
def PastX (τ : TT) (P : Nat) (o : Nat → Int32) (g : Nat → Nat → Int32) (A : Nat → Int32) : Prop :=
  ∃ nx sz : Nat, nx < 10 ∧ sz ≤ 10 ∧ o 1 = nI nx ∧ o 2 = nI sz ∧ A 66 = nI sz ∧ ∀ i, i < sz → PplI τ P (g (2 * ((nx + 10 - sz + i) % 10))) (g (2 * ((nx + 10 - sz + i) % 10) + 1)) (ovr A i)
/-- the town and the people as they stand -/
def NowI (b : Nat) (z : Sh) (h : Hp) : Prop :=
  ∃ (t : Nat) (τ : TT) (P : Nat), h.R b 3 = some t ∧ TownX b z h t τ ∧ TownOK τ ∧ TownA (h.I (b + 73)) τ ∧ h.I t 5 = h.I (b + 73) 0 ∧ h.I (b + 73) 3 = nI P ∧ P ≤ 6 ∧ PplI τ P (h.I (b + 11)) (h.I (b + 12)) (h.I (b + 73)) ∧ PastX τ P (h.I (b + 15)) (fun k => h.I (b + 17 + k)) (h.I (b + 73))
def img (A : Nat → Int32) (i : Nat) : Nat → Int32 := fun k => A (1458 * (i + 1) + k)
def ImgI (b : Nat) (z : Sh) (h : Hp) (i : Nat) : Prop :=
  (h.I (b + 74) i = nI 0 ∧ h.R (b + 37) i = none) ∨ (h.I (b + 74) i = nI 1 ∧ ∃ (t : Nat) (τ : TT) (P : Nat), h.R (b + 37) i = some t ∧ TownX b z h t τ ∧ TownOK τ ∧ TownA (img (h.I (b + 73)) i) τ ∧ h.I t 5 = img (h.I (b + 73)) i 0 ∧ img (h.I (b + 73)) i 3 = nI P ∧ P ≤ 6 ∧ PplI τ P (h.I (b + 60 + 2 * i)) (h.I (b + 61 + 2 * i)) (img (h.I (b + 73)) i))
def TrayX (o : Nat → Int32) (r : Nat → Int64) (srt many : Nat → Int32) (nums : Nat → Int64) (i : Nat) : Prop :=
  (o 1 = nI 0 ∧ srt i = -1) ∨ (o 1 = nI 1 ∧ ∃ so sz : Nat, so ≤ 3 ∧ sz ≤ 40 ∧ srt i = nI so ∧ o 2 = nI so ∧ many i = nI sz ∧ o 3 = nI sz ∧ ∀ j, j < sz → r j = nums (40 * i + j))
def TrayI (b : Nat) (h : Hp) : Prop := ∀ i, i < 4 → TrayX (h.I (b + 64 + 2 * i)) (h.J (b + 65 + 2 * i)) (h.I (b + 89)) (h.I (b + 90)) (h.J (b + 91)) i
def TapeI (b : Nat) (h : Hp) : Prop :=
  (∃ tp : Nat, tp ≤ 900 ∧ h.I b 1 = nI tp ∧ h.I (b + 72) 5 = nI tp ∧ ∀ j, j < tp → ∃ v : Nat, v < 256 ∧ h.I (b + 75) j = nI v ∧ h.I (b + 1) j &&& 255 = nI v) ∧ h.I (b + 2) 0 = h.I (b + 72) 13 ∧ h.I (b + 2) 1 = h.I (b + 72) 14
/-! what is kept of reckonings -/
def MemoOK (cells : Nat → Int64) (N st : Nat) (V : Nat → Nat → Prop) : Prop := ∀ c, c < N → ∃ s v : Nat, s ≤ st ∧ v < 281474976710656 ∧ cells c = lI ((s : Int) * 281474976710656 + v) ∧ (0 < st → s = st → V c v)
def bestP (τ : TT) (tal : Nat) (md : Bool) : Nat → Nat → Prop := fun c v => ∀ s, SV τ s → enc s = c → (v : Int) = (SC τ tal md 14 s).1 * 16 + (SC τ tal md 14 s).2 + 1
def meanP (τ : TT) (tal : Nat) (md : Bool) : Nat → Nat → Prop := fun c v => ∀ s, SV τ s → enc s = c → (v : Int) = MN τ tal md 14 s
def worthP (τ : TT) (tal : Nat) : Nat → Nat → Prop := fun a v => ∀ s t, SV τ s → t < tD τ → enc s * 4 + t = a → (v : Int) = wV τ tal s t + 9
/-- where the hopes of a stand begin -/
def hpS (c : Nat) : Nat := if (if c % 25 = 0 then 0 else (c % 25 - 1) % 6 + 1) ≤ c / 25 % 7 then ((if c / 175 = 0 then 2 else 1) * 6 - c / 25 % 7) * 9 else 0
def hpA : Nat → Nat
  | 0 => 0
  | c + 1 => hpA c + hpS c
def hopeP (τ : TT) (tal : Nat) (md : Bool) : Nat → Nat → Prop := fun a v => ∀ s need : Nat, SV τ s → 1 ≤ need → need ≤ hpS (enc s) → hpA (enc s) + need = a + 1 → (v : Int) = HP τ tal md 14 s need
def cnt (R : Nat → Option Nat) : Nat → Nat
  | 0 => 0
  | k + 1 => cnt R k + (if (R k).isSome then 1 else 0)
/-- a cell with this stamp -/
def Stm (cells : Nat → Int64) (st c : Nat) : Prop := ∃ v : Nat, v < 281474976710656 ∧ cells c = lI ((st : Int) * 281474976710656 + v)
/-- what is known of a stand is known of all that come behind it -/
def BCl (cells : Nat → Int64) (st : Nat) (τ : TT) (tal : Nat) (md : Bool) : Prop := 0 < st → ∀ s, SV τ s → Stm cells st (enc s) → (∀ t, t < opn τ s → Stm cells st (enc (lvN s t))) ∧ (md = true ∧ sL s = 1 → Stm cells st (enc (drN τ tal s)))
def WaysI (b c : Nat) (z : Sh) (h : Hp) : Prop :=
  ∃ (wt : Nat) (ω : TT) (tal : Nat) (md : Bool) (st ts : Nat), h.R (b + 44) 3 = some wt ∧ TownX b z h wt ω ∧ TownOK ω ∧ tal ≤ 9 ∧ h.I (b + 44) 4 = nI ts ∧ h.I (b + 44) 5 = nI tal ∧ h.I (b + 44) 6 = (if md = true then nI 1 else nI 0) ∧ h.I (b + 44) 7 = nI st ∧ st ≤ c ∧ 1 ≤ ts ∧ ts ≤ c + 1 ∧
  (0 < st → ∀ y, y < 7 → h.I (b + 46) y = nI (gV ω tal y)) ∧ (MemoOK (h.J (b + 52)) 1400 st (bestP ω tal md) ∧ BCl (h.J (b + 52)) st ω tal md) ∧ MemoOK (h.J (b + 57)) 1400 st (meanP ω tal md) ∧
  (∀ k, k < 10 → ∀ mo, h.R (b + 45) k = some mo → b + 92 ≤ mo ∧ mo + 1 < z.sz ∧ z.K mo = 3 ∧ h.R mo 0 = some (mo + 1) ∧ z.K (mo + 1) = 15 ∧ z.N (mo + 1) = 5600 ∧ MemoOK (h.J (mo + 1)) 5600 ts (worthP ω k) ∧ (∀ k', k' < 10 → h.R (b + 45) k' = some mo → k' = k) ∧ h.R (b + 55) 4 ≠ some mo) ∧
  (∀ mo, h.R (b + 55) 4 = some mo → b + 92 ≤ mo ∧ mo + 1 < z.sz ∧ z.K mo = 3 ∧ h.R mo 0 = some (mo + 1) ∧ z.K (mo + 1) = 15 ∧ z.N (mo + 1) = hpA 1400 ∧ (∀ j, j < 1400 → h.I (b + 58) j = nI (hpA j)) ∧ MemoOK (h.J (mo + 1)) (hpA 1400) st (hopeP ω tal md))
/-- what has been made so far -/
def RoomI (z0 : Sh) (b c : Nat) (z : Sh) (h : Hp) : Prop :=
  b + 92 ≤ z.sz ∧ z.sz ≤ b + 100 + 1000 * c + 2 * cnt (h.R (b + 45)) 10 + (if (h.R (b + 55) 4).isSome then 2 else 0) ∧ z0.sl ≤ z.sl ∧ z.sl ≤ z0.sl + 420000 + 2000 * c + 5601 * cnt (h.R (b + 45)) 10 + (if (h.R (b + 55) 4).isSome then 200000 else 0)
/-- what lies ahead of the two objects stays -/
def BaseI (z0 : Sh) (h0 : Hp) (b : Nat) (z : Sh) (h : Hp) : Prop := (∀ a, a < b → z.K a = z0.K a ∧ z.N a = z0.N a ∧ h.I a = h0.I a ∧ h.J a = h0.J a ∧ h.R a = h0.R a) ∧ ∀ k, z.st k = z0.st k
def Inv (z0 : Sh) (h0 : Hp) (b c : Nat) (z : Sh) (h : Hp) : Prop :=
  BaseI z0 h0 b z h ∧ LayX z h.2.2 b ∧ LayR z h.2.2 (b + 72) ∧ NowI b z h ∧ (ImgI b z h 0 ∧ ImgI b z h 1) ∧ TrayI b h ∧ TapeI b h ∧ WaysI b c z h ∧ RoomI z0 b c z h
