/-! SecondLifeModel.readAtom(I)V -/
def f_X12_readAtom_66 (n : Nat) (g_X12_readAtom : Sh → Hp → Nat → Int32 → Option (Hp)) (g_X12_readIf : Sh → Hp → Nat → Int32 → Option (Hp)) (g_X12_readTerm : Sh → Hp → Nat → Int32 → Option (Hp)) (g_X12_readSum : Sh → Hp → Nat → Int32 → Option (Hp)) (g_X12_readUnit : Sh → Hp → Nat → Int32 → Option (Hp)) (g_X12_readBoth : Sh → Hp → Nat → Int32 → Option (Hp)) (g_X12_readTruth : Sh → Hp → Nat → Int32 → Option (Hp)) (z : Sh) (h : Hp) (v0 : Nat) (v1 : Int32) : Option (Hp) :=
  (f_X12_is z h v0 35).bind fun x1 =>
  if x1 = 0 then
    (f_X12_is z h v0 10).bind fun x3 =>
    if x3 = 0 then
      (f_X12_fails z h v0 2).bind fun h5 =>
      some h5
    else
      (ckK z v0 12).bind fun _ =>
      (g_X12_readIf z h v0 v1).bind fun h6 =>
      some h6
  else
    (f_X12_goesIn n z h v0 v1).bind fun (x7, h8) =>
    if x7 = 0 then
      some h8
    else
      (ckK z v0 12).bind fun _ =>
      (g_X12_readSum z h8 v0 (v1 + 1)).bind fun h10 =>
      (f_X12_eats n z h10 v0 36).bind fun (x11, h12) =>
      if x11 = 0 then
        (f_X12_fails z h12 v0 2).bind fun h14 =>
        some h14
      else
        some h12
def F_X12_readAtom (n : Nat) (g_X12_readAtom : Sh → Hp → Nat → Int32 → Option (Hp)) (g_X12_readIf : Sh → Hp → Nat → Int32 → Option (Hp)) (g_X12_readTerm : Sh → Hp → Nat → Int32 → Option (Hp)) (g_X12_readSum : Sh → Hp → Nat → Int32 → Option (Hp)) (g_X12_readUnit : Sh → Hp → Nat → Int32 → Option (Hp)) (g_X12_readBoth : Sh → Hp → Nat → Int32 → Option (Hp)) (g_X12_readTruth : Sh → Hp → Nat → Int32 → Option (Hp)) (z : Sh) (h : Hp) (v0 : Nat) (v1 : Int32) : Option (Hp) :=
  if z.K v0 = 12 then
    (f_X12_is z h v0 24).bind fun x1 =>
    if x1 = 0 then
      (gI z h 12 v0 11).bind fun x3 =>
      if x3 = 0 then
        (gI z h 12 v0 9).bind fun x5 =>
        (f_X12_wordOf z h v0 x5).bind fun x6 =>
        if x6 = (-1) then
          f_X12_readAtom_66 n g_X12_readAtom g_X12_readIf g_X12_readTerm g_X12_readSum g_X12_readUnit g_X12_readBoth g_X12_readTruth z h v0 v1
        else
          (gI z h 12 v0 9).bind fun x8 =>
          (f_X12_wordOf z h v0 x8).bind fun x9 =>
          (f_X12_codes z h v0 (1000 + x9)).bind fun h10 =>
          (f_X12_next n z h10 v0).bind fun h11 =>
          some h11
      else
        f_X12_readAtom_66 n g_X12_readAtom g_X12_readIf g_X12_readTerm g_X12_readSum g_X12_readUnit g_X12_readBoth g_X12_readTruth z h v0 v1
    else
      (gI z h 12 v0 10).bind fun x12 =>
      (f_X12_codes z h v0 x12).bind fun h13 =>
      (f_X12_next n z h13 v0).bind fun h14 =>
      some h14
  else none
def f_X12_readIf_72 (n : Nat) (g_X12_readAtom : Sh → Hp → Nat → Int32 → Option (Hp)) (g_X12_readIf : Sh → Hp → Nat → Int32 → Option (Hp)) (g_X12_readTerm : Sh → Hp → Nat → Int32 → Option (Hp)) (g_X12_readSum : Sh → Hp → Nat → Int32 → Option (Hp)) (g_X12_readUnit : Sh → Hp → Nat → Int32 → Option (Hp)) (g_X12_readBoth : Sh → Hp → Nat → Int32 → Option (Hp)) (g_X12_readTruth : Sh → Hp → Nat → Int32 → Option (Hp)) (z : Sh) (h : Hp) (v0 : Nat) : Option (Hp) :=
  (f_X12_codes z h v0 3009).bind fun h1 =>
  some h1
def f_X12_readIf_51 (n : Nat) (g_X12_readAtom : Sh → Hp → Nat → Int32 → Option (Hp)) (g_X12_readIf : Sh → Hp → Nat → Int32 → Option (Hp)) (g_X12_readTerm : Sh → Hp → Nat → Int32 → Option (Hp)) (g_X12_readSum : Sh → Hp → Nat → Int32 → Option (Hp)) (g_X12_readUnit : Sh → Hp → Nat → Int32 → Option (Hp)) (g_X12_readBoth : Sh → Hp → Nat → Int32 → Option (Hp)) (g_X12_readTruth : Sh → Hp → Nat → Int32 → Option (Hp)) (z : Sh) (h : Hp) (v0 : Nat) (v1 : Int32) : Option (Hp) :=
  (ckK z v0 12).bind fun _ =>
  (g_X12_readSum z h v0 (v1 + 1)).bind fun h1 =>
  (f_X12_eats n z h1 v0 13).bind fun (x2, h3) =>
  if x2 = 0 then
    (f_X12_fails z h3 v0 2).bind fun h5 =>
    f_X12_readIf_72 n g_X12_readAtom g_X12_readIf g_X12_readTerm g_X12_readSum g_X12_readUnit g_X12_readBoth g_X12_readTruth z h5 v0
  else
    f_X12_readIf_72 n g_X12_readAtom g_X12_readIf g_X12_readTerm g_X12_readSum g_X12_readUnit g_X12_readBoth g_X12_readTruth z h3 v0
def f_X12_readIf_30 (n : Nat) (g_X12_readAtom : Sh → Hp → Nat → Int32 → Option (Hp)) (g_X12_readIf : Sh → Hp → Nat → Int32 → Option (Hp)) (g_X12_readTerm : Sh → Hp → Nat → Int32 → Option (Hp)) (g_X12_readSum : Sh → Hp → Nat → Int32 → Option (Hp)) (g_X12_readUnit : Sh → Hp → Nat → Int32 → Option (Hp)) (g_X12_readBoth : Sh → Hp → Nat → Int32 → Option (Hp)) (g_X12_readTruth : Sh → Hp → Nat → Int32 → Option (Hp)) (z : Sh) (h : Hp) (v0 : Nat) (v1 : Int32) : Option (Hp) :=
  (ckK z v0 12).bind fun _ =>
  (g_X12_readSum z h v0 (v1 + 1)).bind fun h1 =>
  (f_X12_eats n z h1 v0 12).bind fun (x2, h3) =>
  if x2 = 0 then
    (f_X12_fails z h3 v0 2).bind fun h5 =>
    f_X12_readIf_51 n g_X12_readAtom g_X12_readIf g_X12_readTerm g_X12_readSum g_X12_readUnit g_X12_readBoth g_X12_readTruth z h5 v0 v1
  else
    f_X12_readIf_51 n g_X12_readAtom g_X12_readIf g_X12_readTerm g_X12_readSum g_X12_readUnit g_X12_readBoth g_X12_readTruth z h3 v0 v1
def F_X12_readIf (n : Nat) (g_X12_readAtom : Sh → Hp → Nat → Int32 → Option (Hp)) (g_X12_readIf : Sh → Hp → Nat → Int32 → Option (Hp)) (g_X12_readTerm : Sh → Hp → Nat → Int32 → Option (Hp)) (g_X12_readSum : Sh → Hp → Nat → Int32 → Option (Hp)) (g_X12_readUnit : Sh → Hp → Nat → Int32 → Option (Hp)) (g_X12_readBoth : Sh → Hp → Nat → Int32 → Option (Hp)) (g_X12_readTruth : Sh → Hp → Nat → Int32 → Option (Hp)) (z : Sh) (h : Hp) (v0 : Nat) (v1 : Int32) : Option (Hp) :=
  if z.K v0 = 12 then
    (f_X12_goesIn n z h v0 v1).bind fun (x1, h2) =>
    if x1 = 0 then
      some h2
    else
      (ckK z v0 12).bind fun _ =>
      (g_X12_readTruth z h2 v0 (v1 + 1)).bind fun h4 =>
      (f_X12_eats n z h4 v0 11).bind fun (x5, h6) =>
      if x5 = 0 then
        (f_X12_fails z h6 v0 2).bind fun h8 =>
        f_X12_readIf_30 n g_X12_readAtom g_X12_readIf g_X12_readTerm g_X12_readSum g_X12_readUnit g_X12_readBoth g_X12_readTruth z h8 v0 v1
      else
        f_X12_readIf_30 n g_X12_readAtom g_X12_readIf g_X12_readTerm g_X12_readSum g_X12_readUnit g_X12_readBoth g_X12_readTruth z h6 v0 v1
  else none
def f_X12_readTerm_5 (n : Nat) (g_X12_readAtom : Sh → Hp → Nat → Int32 → Option (Hp)) (g_X12_readIf : Sh → Hp → Nat → Int32 → Option (Hp)) (g_X12_readTerm : Sh → Hp → Nat → Int32 → Option (Hp)) (g_X12_readSum : Sh → Hp → Nat → Int32 → Option (Hp)) (g_X12_readUnit : Sh → Hp → Nat → Int32 → Option (Hp)) (g_X12_readBoth : Sh → Hp → Nat → Int32 → Option (Hp)) (g_X12_readTruth : Sh → Hp → Nat → Int32 → Option (Hp)) (z : Sh) : Nat → Hp → Nat → Int32 → Option (Hp)
  | 0, _, _, _ => none
  | i + 1, h, v0, v1 =>
    (f_X12_eats n z h v0 34).bind fun (x1, h2) =>
    if x1 = 0 then
      some h2
    else
      (ckK z v0 12).bind fun _ =>
      (g_X12_readAtom z h2 v0 v1).bind fun h4 =>
      (f_X12_codes z h4 v0 3002).bind fun h5 =>
      (f_X12_readTerm_5 n g_X12_readAtom g_X12_readIf g_X12_readTerm g_X12_readSum g_X12_readUnit g_X12_readBoth g_X12_readTruth z i) h5 v0 v1
def F_X12_readTerm (n : Nat) (g_X12_readAtom : Sh → Hp → Nat → Int32 → Option (Hp)) (g_X12_readIf : Sh → Hp → Nat → Int32 → Option (Hp)) (g_X12_readTerm : Sh → Hp → Nat → Int32 → Option (Hp)) (g_X12_readSum : Sh → Hp → Nat → Int32 → Option (Hp)) (g_X12_readUnit : Sh → Hp → Nat → Int32 → Option (Hp)) (g_X12_readBoth : Sh → Hp → Nat → Int32 → Option (Hp)) (g_X12_readTruth : Sh → Hp → Nat → Int32 → Option (Hp)) (z : Sh) (h : Hp) (v0 : Nat) (v1 : Int32) : Option (Hp) :=
  if z.K v0 = 12 then
    (ckK z v0 12).bind fun _ =>
    (g_X12_readAtom z h v0 v1).bind fun h1 =>
    f_X12_readTerm_5 n g_X12_readAtom g_X12_readIf g_X12_readTerm g_X12_readSum g_X12_readUnit g_X12_readBoth g_X12_readTruth z n h1 v0 v1
  else none
def f_X12_readSum_41 (n : Nat) (g_X12_readAtom : Sh → Hp → Nat → Int32 → Option (Hp)) (g_X12_readIf : Sh → Hp → Nat → Int32 → Option (Hp)) (g_X12_readTerm : Sh → Hp → Nat → Int32 → Option (Hp)) (g_X12_readSum : Sh → Hp → Nat → Int32 → Option (Hp)) (g_X12_readUnit : Sh → Hp → Nat → Int32 → Option (Hp)) (g_X12_readBoth : Sh → Hp → Nat → Int32 → Option (Hp)) (g_X12_readTruth : Sh → Hp → Nat → Int32 → Option (Hp)) (z : Sh) (k5 : Hp → Nat → Int32 → Option (Hp)) (h : Hp) (v0 : Nat) (v1 : Int32) (u0 : Int32) : Option (Hp) :=
  (f_X12_next n z h v0).bind fun h1 =>
  (ckK z v0 12).bind fun _ =>
  (g_X12_readTerm z h1 v0 v1).bind fun h2 =>
  (f_X12_codes z h2 v0 u0).bind fun h3 =>
  k5 h3 v0 v1
def f_X12_readSum_23 (n : Nat) (g_X12_readAtom : Sh → Hp → Nat → Int32 → Option (Hp)) (g_X12_readIf : Sh → Hp → Nat → Int32 → Option (Hp)) (g_X12_readTerm : Sh → Hp → Nat → Int32 → Option (Hp)) (g_X12_readSum : Sh → Hp → Nat → Int32 → Option (Hp)) (g_X12_readUnit : Sh → Hp → Nat → Int32 → Option (Hp)) (g_X12_readBoth : Sh → Hp → Nat → Int32 → Option (Hp)) (g_X12_readTruth : Sh → Hp → Nat → Int32 → Option (Hp)) (z : Sh) (k5 : Hp → Nat → Int32 → Option (Hp)) (h : Hp) (v0 : Nat) (v1 : Int32) : Option (Hp) :=
  (gI z h 12 v0 9).bind fun x1 =>
  if x1 = 32 then
    f_X12_readSum_41 n g_X12_readAtom g_X12_readIf g_X12_readTerm g_X12_readSum g_X12_readUnit g_X12_readBoth g_X12_readTruth z k5 h v0 v1 3000
  else
    f_X12_readSum_41 n g_X12_readAtom g_X12_readIf g_X12_readTerm g_X12_readSum g_X12_readUnit g_X12_readBoth g_X12_readTruth z k5 h v0 v1 3001
def f_X12_readSum_5 (n : Nat) (g_X12_readAtom : Sh → Hp → Nat → Int32 → Option (Hp)) (g_X12_readIf : Sh → Hp → Nat → Int32 → Option (Hp)) (g_X12_readTerm : Sh → Hp → Nat → Int32 → Option (Hp)) (g_X12_readSum : Sh → Hp → Nat → Int32 → Option (Hp)) (g_X12_readUnit : Sh → Hp → Nat → Int32 → Option (Hp)) (g_X12_readBoth : Sh → Hp → Nat → Int32 → Option (Hp)) (g_X12_readTruth : Sh → Hp → Nat → Int32 → Option (Hp)) (z : Sh) : Nat → Hp → Nat → Int32 → Option (Hp)
  | 0, _, _, _ => none
  | i + 1, h, v0, v1 =>
    (f_X12_is z h v0 32).bind fun x1 =>
    if x1 = 0 then
      (f_X12_is z h v0 33).bind fun x3 =>
      if x3 = 0 then
        some h
      else
        f_X12_readSum_23 n g_X12_readAtom g_X12_readIf g_X12_readTerm g_X12_readSum g_X12_readUnit g_X12_readBoth g_X12_readTruth z (f_X12_readSum_5 n g_X12_readAtom g_X12_readIf g_X12_readTerm g_X12_readSum g_X12_readUnit g_X12_readBoth g_X12_readTruth z i) h v0 v1
    else
      f_X12_readSum_23 n g_X12_readAtom g_X12_readIf g_X12_readTerm g_X12_readSum g_X12_readUnit g_X12_readBoth g_X12_readTruth z (f_X12_readSum_5 n g_X12_readAtom g_X12_readIf g_X12_readTerm g_X12_readSum g_X12_readUnit g_X12_readBoth g_X12_readTruth z i) h v0 v1
def F_X12_readSum (n : Nat) (g_X12_readAtom : Sh → Hp → Nat → Int32 → Option (Hp)) (g_X12_readIf : Sh → Hp → Nat → Int32 → Option (Hp)) (g_X12_readTerm : Sh → Hp → Nat → Int32 → Option (Hp)) (g_X12_readSum : Sh → Hp → Nat → Int32 → Option (Hp)) (g_X12_readUnit : Sh → Hp → Nat → Int32 → Option (Hp)) (g_X12_readBoth : Sh → Hp → Nat → Int32 → Option (Hp)) (g_X12_readTruth : Sh → Hp → Nat → Int32 → Option (Hp)) (z : Sh) (h : Hp) (v0 : Nat) (v1 : Int32) : Option (Hp) :=
  if z.K v0 = 12 then
    (ckK z v0 12).bind fun _ =>
    (g_X12_readTerm z h v0 v1).bind fun h1 =>
    f_X12_readSum_5 n g_X12_readAtom g_X12_readIf g_X12_readTerm g_X12_readSum g_X12_readUnit g_X12_readBoth g_X12_readTruth z n h1 v0 v1
  else none
def f_X12_readUnit_151 (n : Nat) (g_X12_readAtom : Sh → Hp → Nat → Int32 → Option (Hp)) (g_X12_readIf : Sh → Hp → Nat → Int32 → Option (Hp)) (g_X12_readTerm : Sh → Hp → Nat → Int32 → Option (Hp)) (g_X12_readSum : Sh → Hp → Nat → Int32 → Option (Hp)) (g_X12_readUnit : Sh → Hp → Nat → Int32 → Option (Hp)) (g_X12_readBoth : Sh → Hp → Nat → Int32 → Option (Hp)) (g_X12_readTruth : Sh → Hp → Nat → Int32 → Option (Hp)) (z : Sh) (h : Hp) (v0 : Nat) (v1 : Int32) (v2 : Int32) : Option (Hp) :=
  (ckK z v0 12).bind fun _ =>
  (g_X12_readSum z h v0 v1).bind fun h1 =>
  (f_X12_codes z h1 v0 v2).bind fun h2 =>
  some h2
def f_X12_readUnit_139 (n : Nat) (g_X12_readAtom : Sh → Hp → Nat → Int32 → Option (Hp)) (g_X12_readIf : Sh → Hp → Nat → Int32 → Option (Hp)) (g_X12_readTerm : Sh → Hp → Nat → Int32 → Option (Hp)) (g_X12_readSum : Sh → Hp → Nat → Int32 → Option (Hp)) (g_X12_readUnit : Sh → Hp → Nat → Int32 → Option (Hp)) (g_X12_readBoth : Sh → Hp → Nat → Int32 → Option (Hp)) (g_X12_readTruth : Sh → Hp → Nat → Int32 → Option (Hp)) (z : Sh) (h : Hp) (v0 : Nat) (v1 : Int32) (v2 : Int32) : Option (Hp) :=
  (f_X12_next n z h v0).bind fun h1 =>
  f_X12_readUnit_151 n g_X12_readAtom g_X12_readIf g_X12_readTerm g_X12_readSum g_X12_readUnit g_X12_readBoth g_X12_readTruth z h1 v0 v1 v2
def f_X12_readUnit_111 (n : Nat) (g_X12_readAtom : Sh → Hp → Nat → Int32 → Option (Hp)) (g_X12_readIf : Sh → Hp → Nat → Int32 → Option (Hp)) (g_X12_readTerm : Sh → Hp → Nat → Int32 → Option (Hp)) (g_X12_readSum : Sh → Hp → Nat → Int32 → Option (Hp)) (g_X12_readUnit : Sh → Hp → Nat → Int32 → Option (Hp)) (g_X12_readBoth : Sh → Hp → Nat → Int32 → Option (Hp)) (g_X12_readTruth : Sh → Hp → Nat → Int32 → Option (Hp)) (z : Sh) (h : Hp) (v0 : Nat) (v1 : Int32) (u0 : Int32) : Option (Hp) :=
  (f_X12_is z h v0 39).bind fun x1 =>
  if x1 = 0 then
    (f_X12_is z h v0 40).bind fun x3 =>
    if x3 = 0 then
      (f_X12_is z h v0 41).bind fun x5 =>
      if x5 = 0 then
        (f_X12_fails z h v0 2).bind fun h7 =>
        f_X12_readUnit_151 n g_X12_readAtom g_X12_readIf g_X12_readTerm g_X12_readSum g_X12_readUnit g_X12_readBoth g_X12_readTruth z h7 v0 v1 u0
      else
        f_X12_readUnit_139 n g_X12_readAtom g_X12_readIf g_X12_readTerm g_X12_readSum g_X12_readUnit g_X12_readBoth g_X12_readTruth z h v0 v1 u0
    else
      f_X12_readUnit_139 n g_X12_readAtom g_X12_readIf g_X12_readTerm g_X12_readSum g_X12_readUnit g_X12_readBoth g_X12_readTruth z h v0 v1 u0
  else
    f_X12_readUnit_139 n g_X12_readAtom g_X12_readIf g_X12_readTerm g_X12_readSum g_X12_readUnit g_X12_readBoth g_X12_readTruth z h v0 v1 u0
def F_X12_readUnit (n : Nat) (g_X12_readAtom : Sh → Hp → Nat → Int32 → Option (Hp)) (g_X12_readIf : Sh → Hp → Nat → Int32 → Option (Hp)) (g_X12_readTerm : Sh → Hp → Nat → Int32 → Option (Hp)) (g_X12_readSum : Sh → Hp → Nat → Int32 → Option (Hp)) (g_X12_readUnit : Sh → Hp → Nat → Int32 → Option (Hp)) (g_X12_readBoth : Sh → Hp → Nat → Int32 → Option (Hp)) (g_X12_readTruth : Sh → Hp → Nat → Int32 → Option (Hp)) (z : Sh) (h : Hp) (v0 : Nat) (v1 : Int32) : Option (Hp) :=
  if z.K v0 = 12 then
    (f_X12_is z h v0 22).bind fun x1 =>
    if x1 = 0 then
      (f_X12_is z h v0 37).bind fun x3 =>
      if x3 = 0 then
        (ckK z v0 12).bind fun _ =>
        (g_X12_readSum z h v0 v1).bind fun h5 =>
        (f_X12_is z h5 v0 39).bind fun x6 =>
        if x6 = 0 then
          (f_X12_is z h5 v0 40).bind fun x8 =>
          if x8 = 0 then
            f_X12_readUnit_111 n g_X12_readAtom g_X12_readIf g_X12_readTerm g_X12_readSum g_X12_readUnit g_X12_readBoth g_X12_readTruth z h5 v0 v1 3005
          else
            f_X12_readUnit_111 n g_X12_readAtom g_X12_readIf g_X12_readTerm g_X12_readSum g_X12_readUnit g_X12_readBoth g_X12_readTruth z h5 v0 v1 3004
        else
          f_X12_readUnit_111 n g_X12_readAtom g_X12_readIf g_X12_readTerm g_X12_readSum g_X12_readUnit g_X12_readBoth g_X12_readTruth z h5 v0 v1 3003
      else
        (f_X12_goesIn n z h v0 v1).bind fun (x10, h11) =>
        if x10 = 0 then
          some h11
        else
          (ckK z v0 12).bind fun _ =>
          (g_X12_readTruth z h11 v0 (v1 + 1)).bind fun h13 =>
          (f_X12_eats n z h13 v0 38).bind fun (x14, h15) =>
          if x14 = 0 then
            (f_X12_fails z h15 v0 2).bind fun h17 =>
            some h17
          else
            some h15
    else
      (f_X12_goesIn n z h v0 v1).bind fun (x18, h19) =>
      if x18 = 0 then
        some h19
      else
        (ckK z v0 12).bind fun _ =>
        (g_X12_readUnit z h19 v0 (v1 + 1)).bind fun h21 =>
        (f_X12_codes z h21 v0 3006).bind fun h22 =>
        some h22
  else none
def f_X12_readBoth_5 (n : Nat) (g_X12_readAtom : Sh → Hp → Nat → Int32 → Option (Hp)) (g_X12_readIf : Sh → Hp → Nat → Int32 → Option (Hp)) (g_X12_readTerm : Sh → Hp → Nat → Int32 → Option (Hp)) (g_X12_readSum : Sh → Hp → Nat → Int32 → Option (Hp)) (g_X12_readUnit : Sh → Hp → Nat → Int32 → Option (Hp)) (g_X12_readBoth : Sh → Hp → Nat → Int32 → Option (Hp)) (g_X12_readTruth : Sh → Hp → Nat → Int32 → Option (Hp)) (z : Sh) : Nat → Hp → Nat → Int32 → Option (Hp)
  | 0, _, _, _ => none
  | i + 1, h, v0, v1 =>
    (f_X12_eats n z h v0 20).bind fun (x1, h2) =>
    if x1 = 0 then
      some h2
    else
      (ckK z v0 12).bind fun _ =>
      (g_X12_readUnit z h2 v0 v1).bind fun h4 =>
      (f_X12_codes z h4 v0 3007).bind fun h5 =>
      (f_X12_readBoth_5 n g_X12_readAtom g_X12_readIf g_X12_readTerm g_X12_readSum g_X12_readUnit g_X12_readBoth g_X12_readTruth z i) h5 v0 v1
def F_X12_readBoth (n : Nat) (g_X12_readAtom : Sh → Hp → Nat → Int32 → Option (Hp)) (g_X12_readIf : Sh → Hp → Nat → Int32 → Option (Hp)) (g_X12_readTerm : Sh → Hp → Nat → Int32 → Option (Hp)) (g_X12_readSum : Sh → Hp → Nat → Int32 → Option (Hp)) (g_X12_readUnit : Sh → Hp → Nat → Int32 → Option (Hp)) (g_X12_readBoth : Sh → Hp → Nat → Int32 → Option (Hp)) (g_X12_readTruth : Sh → Hp → Nat → Int32 → Option (Hp)) (z : Sh) (h : Hp) (v0 : Nat) (v1 : Int32) : Option (Hp) :=
  if z.K v0 = 12 then
    (ckK z v0 12).bind fun _ =>
    (g_X12_readUnit z h v0 v1).bind fun h1 =>
    f_X12_readBoth_5 n g_X12_readAtom g_X12_readIf g_X12_readTerm g_X12_readSum g_X12_readUnit g_X12_readBoth g_X12_readTruth z n h1 v0 v1
  else none
def f_X12_readTruth_5 (n : Nat) (g_X12_readAtom : Sh → Hp → Nat → Int32 → Option (Hp)) (g_X12_readIf : Sh → Hp → Nat → Int32 → Option (Hp)) (g_X12_readTerm : Sh → Hp → Nat → Int32 → Option (Hp)) (g_X12_readSum : Sh → Hp → Nat → Int32 → Option (Hp)) (g_X12_readUnit : Sh → Hp → Nat → Int32 → Option (Hp)) (g_X12_readBoth : Sh → Hp → Nat → Int32 → Option (Hp)) (g_X12_readTruth : Sh → Hp → Nat → Int32 → Option (Hp)) (z : Sh) : Nat → Hp → Nat → Int32 → Option (Hp)
  | 0, _, _, _ => none
  | i + 1, h, v0, v1 =>
    (f_X12_eats n z h v0 21).bind fun (x1, h2) =>
    if x1 = 0 then
      some h2
    else
      (ckK z v0 12).bind fun _ =>
      (g_X12_readBoth z h2 v0 v1).bind fun h4 =>
      (f_X12_codes z h4 v0 3008).bind fun h5 =>
      (f_X12_readTruth_5 n g_X12_readAtom g_X12_readIf g_X12_readTerm g_X12_readSum g_X12_readUnit g_X12_readBoth g_X12_readTruth z i) h5 v0 v1
def F_X12_readTruth (n : Nat) (g_X12_readAtom : Sh → Hp → Nat → Int32 → Option (Hp)) (g_X12_readIf : Sh → Hp → Nat → Int32 → Option (Hp)) (g_X12_readTerm : Sh → Hp → Nat → Int32 → Option (Hp)) (g_X12_readSum : Sh → Hp → Nat → Int32 → Option (Hp)) (g_X12_readUnit : Sh → Hp → Nat → Int32 → Option (Hp)) (g_X12_readBoth : Sh → Hp → Nat → Int32 → Option (Hp)) (g_X12_readTruth : Sh → Hp → Nat → Int32 → Option (Hp)) (z : Sh) (h : Hp) (v0 : Nat) (v1 : Int32) : Option (Hp) :=
  if z.K v0 = 12 then
    (ckK z v0 12).bind fun _ =>
    (g_X12_readBoth z h v0 v1).bind fun h1 =>
    f_X12_readTruth_5 n g_X12_readAtom g_X12_readIf g_X12_readTerm g_X12_readSum g_X12_readUnit g_X12_readBoth g_X12_readTruth z n h1 v0 v1
  else none
def rc_X12_readAtom (n : Nat) : Nat → (Sh → Hp → Nat → Int32 → Option (Hp)) × (Sh → Hp → Nat → Int32 → Option (Hp)) × (Sh → Hp → Nat → Int32 → Option (Hp)) × (Sh → Hp → Nat → Int32 → Option (Hp)) × (Sh → Hp → Nat → Int32 → Option (Hp)) × (Sh → Hp → Nat → Int32 → Option (Hp)) × (Sh → Hp → Nat → Int32 → Option (Hp))
  | 0 => (fun _ _ _ _ => none, fun _ _ _ _ => none, fun _ _ _ _ => none, fun _ _ _ _ => none, fun _ _ _ _ => none, fun _ _ _ _ => none, fun _ _ _ _ => none)
  | i + 1 => (F_X12_readAtom n (rc_X12_readAtom n i).1 (rc_X12_readAtom n i).2.1 (rc_X12_readAtom n i).2.2.1 (rc_X12_readAtom n i).2.2.2.1 (rc_X12_readAtom n i).2.2.2.2.1 (rc_X12_readAtom n i).2.2.2.2.2.1 (rc_X12_readAtom n i).2.2.2.2.2.2, F_X12_readIf n (rc_X12_readAtom n i).1 (rc_X12_readAtom n i).2.1 (rc_X12_readAtom n i).2.2.1 (rc_X12_readAtom n i).2.2.2.1 (rc_X12_readAtom n i).2.2.2.2.1 (rc_X12_readAtom n i).2.2.2.2.2.1 (rc_X12_readAtom n i).2.2.2.2.2.2, F_X12_readTerm n (rc_X12_readAtom n i).1 (rc_X12_readAtom n i).2.1 (rc_X12_readAtom n i).2.2.1 (rc_X12_readAtom n i).2.2.2.1 (rc_X12_readAtom n i).2.2.2.2.1 (rc_X12_readAtom n i).2.2.2.2.2.1 (rc_X12_readAtom n i).2.2.2.2.2.2, F_X12_readSum n (rc_X12_readAtom n i).1 (rc_X12_readAtom n i).2.1 (rc_X12_readAtom n i).2.2.1 (rc_X12_readAtom n i).2.2.2.1 (rc_X12_readAtom n i).2.2.2.2.1 (rc_X12_readAtom n i).2.2.2.2.2.1 (rc_X12_readAtom n i).2.2.2.2.2.2, F_X12_readUnit n (rc_X12_readAtom n i).1 (rc_X12_readAtom n i).2.1 (rc_X12_readAtom n i).2.2.1 (rc_X12_readAtom n i).2.2.2.1 (rc_X12_readAtom n i).2.2.2.2.1 (rc_X12_readAtom n i).2.2.2.2.2.1 (rc_X12_readAtom n i).2.2.2.2.2.2, F_X12_readBoth n (rc_X12_readAtom n i).1 (rc_X12_readAtom n i).2.1 (rc_X12_readAtom n i).2.2.1 (rc_X12_readAtom n i).2.2.2.1 (rc_X12_readAtom n i).2.2.2.2.1 (rc_X12_readAtom n i).2.2.2.2.2.1 (rc_X12_readAtom n i).2.2.2.2.2.2, F_X12_readTruth n (rc_X12_readAtom n i).1 (rc_X12_readAtom n i).2.1 (rc_X12_readAtom n i).2.2.1 (rc_X12_readAtom n i).2.2.2.1 (rc_X12_readAtom n i).2.2.2.2.1 (rc_X12_readAtom n i).2.2.2.2.2.1 (rc_X12_readAtom n i).2.2.2.2.2.2)
def f_X12_readAtom (n : Nat) (z : Sh) (h : Hp) (v0 : Nat) (v1 : Int32) : Option (Hp) := (rc_X12_readAtom n 60).1 z h v0 v1
theorem k_X12_readAtom {n : Nat} {z : Sh} {h : Hp} {v0 : Nat} {v1 : Int32} {w : Hp} (hf : f_X12_readAtom n z h v0 v1 = some w) : z.K v0 = 12 := by
  have hf : F_X12_readAtom n (rc_X12_readAtom n 59).1 (rc_X12_readAtom n 59).2.1 (rc_X12_readAtom n 59).2.2.1 (rc_X12_readAtom n 59).2.2.2.1 (rc_X12_readAtom n 59).2.2.2.2.1 (rc_X12_readAtom n 59).2.2.2.2.2.1 (rc_X12_readAtom n 59).2.2.2.2.2.2 z h v0 v1 = some w := hf
  unfold F_X12_readAtom at hf
  exact (if_some hf).1
def f_X12_readIf (n : Nat) (z : Sh) (h : Hp) (v0 : Nat) (v1 : Int32) : Option (Hp) := (rc_X12_readAtom n 60).2.1 z h v0 v1
theorem k_X12_readIf {n : Nat} {z : Sh} {h : Hp} {v0 : Nat} {v1 : Int32} {w : Hp} (hf : f_X12_readIf n z h v0 v1 = some w) : z.K v0 = 12 := by
  have hf : F_X12_readIf n (rc_X12_readAtom n 59).1 (rc_X12_readAtom n 59).2.1 (rc_X12_readAtom n 59).2.2.1 (rc_X12_readAtom n 59).2.2.2.1 (rc_X12_readAtom n 59).2.2.2.2.1 (rc_X12_readAtom n 59).2.2.2.2.2.1 (rc_X12_readAtom n 59).2.2.2.2.2.2 z h v0 v1 = some w := hf
  unfold F_X12_readIf at hf
  exact (if_some hf).1
def f_X12_readTerm (n : Nat) (z : Sh) (h : Hp) (v0 : Nat) (v1 : Int32) : Option (Hp) := (rc_X12_readAtom n 60).2.2.1 z h v0 v1
theorem k_X12_readTerm {n : Nat} {z : Sh} {h : Hp} {v0 : Nat} {v1 : Int32} {w : Hp} (hf : f_X12_readTerm n z h v0 v1 = some w) : z.K v0 = 12 := by
  have hf : F_X12_readTerm n (rc_X12_readAtom n 59).1 (rc_X12_readAtom n 59).2.1 (rc_X12_readAtom n 59).2.2.1 (rc_X12_readAtom n 59).2.2.2.1 (rc_X12_readAtom n 59).2.2.2.2.1 (rc_X12_readAtom n 59).2.2.2.2.2.1 (rc_X12_readAtom n 59).2.2.2.2.2.2 z h v0 v1 = some w := hf
  unfold F_X12_readTerm at hf
  exact (if_some hf).1
def f_X12_readSum (n : Nat) (z : Sh) (h : Hp) (v0 : Nat) (v1 : Int32) : Option (Hp) := (rc_X12_readAtom n 60).2.2.2.1 z h v0 v1
theorem k_X12_readSum {n : Nat} {z : Sh} {h : Hp} {v0 : Nat} {v1 : Int32} {w : Hp} (hf : f_X12_readSum n z h v0 v1 = some w) : z.K v0 = 12 := by
  have hf : F_X12_readSum n (rc_X12_readAtom n 59).1 (rc_X12_readAtom n 59).2.1 (rc_X12_readAtom n 59).2.2.1 (rc_X12_readAtom n 59).2.2.2.1 (rc_X12_readAtom n 59).2.2.2.2.1 (rc_X12_readAtom n 59).2.2.2.2.2.1 (rc_X12_readAtom n 59).2.2.2.2.2.2 z h v0 v1 = some w := hf
  unfold F_X12_readSum at hf
  exact (if_some hf).1
def f_X12_readUnit (n : Nat) (z : Sh) (h : Hp) (v0 : Nat) (v1 : Int32) : Option (Hp) := (rc_X12_readAtom n 60).2.2.2.2.1 z h v0 v1
theorem k_X12_readUnit {n : Nat} {z : Sh} {h : Hp} {v0 : Nat} {v1 : Int32} {w : Hp} (hf : f_X12_readUnit n z h v0 v1 = some w) : z.K v0 = 12 := by
  have hf : F_X12_readUnit n (rc_X12_readAtom n 59).1 (rc_X12_readAtom n 59).2.1 (rc_X12_readAtom n 59).2.2.1 (rc_X12_readAtom n 59).2.2.2.1 (rc_X12_readAtom n 59).2.2.2.2.1 (rc_X12_readAtom n 59).2.2.2.2.2.1 (rc_X12_readAtom n 59).2.2.2.2.2.2 z h v0 v1 = some w := hf
  unfold F_X12_readUnit at hf
  exact (if_some hf).1
def f_X12_readBoth (n : Nat) (z : Sh) (h : Hp) (v0 : Nat) (v1 : Int32) : Option (Hp) := (rc_X12_readAtom n 60).2.2.2.2.2.1 z h v0 v1
theorem k_X12_readBoth {n : Nat} {z : Sh} {h : Hp} {v0 : Nat} {v1 : Int32} {w : Hp} (hf : f_X12_readBoth n z h v0 v1 = some w) : z.K v0 = 12 := by
  have hf : F_X12_readBoth n (rc_X12_readAtom n 59).1 (rc_X12_readAtom n 59).2.1 (rc_X12_readAtom n 59).2.2.1 (rc_X12_readAtom n 59).2.2.2.1 (rc_X12_readAtom n 59).2.2.2.2.1 (rc_X12_readAtom n 59).2.2.2.2.2.1 (rc_X12_readAtom n 59).2.2.2.2.2.2 z h v0 v1 = some w := hf
  unfold F_X12_readBoth at hf
  exact (if_some hf).1
def f_X12_readTruth (n : Nat) (z : Sh) (h : Hp) (v0 : Nat) (v1 : Int32) : Option (Hp) := (rc_X12_readAtom n 60).2.2.2.2.2.2 z h v0 v1
theorem k_X12_readTruth {n : Nat} {z : Sh} {h : Hp} {v0 : Nat} {v1 : Int32} {w : Hp} (hf : f_X12_readTruth n z h v0 v1 = some w) : z.K v0 = 12 := by
  have hf : F_X12_readTruth n (rc_X12_readAtom n 59).1 (rc_X12_readAtom n 59).2.1 (rc_X12_readAtom n 59).2.2.1 (rc_X12_readAtom n 59).2.2.2.1 (rc_X12_readAtom n 59).2.2.2.2.1 (rc_X12_readAtom n 59).2.2.2.2.2.1 (rc_X12_readAtom n 59).2.2.2.2.2.2 z h v0 v1 = some w := hf
  unfold F_X12_readTruth at hf
  exact (if_some hf).1
set_option maxHeartbeats 4000000 in
theorem w_X12_readAtom_66 {p : Program} {l : Launch} {e : Env} {s : State} {m : MethodId} {args : Array Value} {below : List Frame} {meth : Method} {c : Code} {s0 : State} {E : Ev} {z : Sh} {d : Nat} {g_X12_readAtom : Sh → Hp → Nat → Int32 → Option (Hp)} {g_X12_readIf : Sh → Hp → Nat → Int32 → Option (Hp)} {g_X12_readTerm : Sh → Hp → Nat → Int32 → Option (Hp)} {g_X12_readSum : Sh → Hp → Nat → Int32 → Option (Hp)} {g_X12_readUnit : Sh → Hp → Nat → Int32 → Option (Hp)} {g_X12_readBoth : Sh → Hp → Nat → Int32 → Option (Hp)} {g_X12_readTruth : Sh → Hp → Nat → Int32 → Option (Hp)} {n : Nat} {h' : Hp} (G : Gl s0 E) (B : Bd p s0 s E m c cX12_readAtom 2 RX12) (hz : s0.heap.size ≤ z.sz) (hc0 : s.heap.size + 0 = z.sz) (hr : meth.sig.returnType = none) (hlk : meth.locks = false) (H_X12_readAtom : ∀ {z : Sh} {h : Hp} {v0 : Nat} {v1 : Int32} {h' : Hp}, g_X12_readAtom z h v0 v1 = some h' → Ct l s0 E yX12_readAtom cX12_readAtom 2 none (8 + d) (151 + 60 * d) [.ref v0, .int v1] z h h' (none)) (H_X12_readIf : ∀ {z : Sh} {h : Hp} {v0 : Nat} {v1 : Int32} {h' : Hp}, g_X12_readIf z h v0 v1 = some h' → Ct l s0 E yX12_readIf cX12_readIf 2 none (8 + d) (151 + 60 * d) [.ref v0, .int v1] z h h' (none)) (H_X12_readTerm : ∀ {z : Sh} {h : Hp} {v0 : Nat} {v1 : Int32} {h' : Hp}, g_X12_readTerm z h v0 v1 = some h' → Ct l s0 E yX12_readTerm cX12_readTerm 2 none (8 + d) (151 + 60 * d) [.ref v0, .int v1] z h h' (none)) (H_X12_readSum : ∀ {z : Sh} {h : Hp} {v0 : Nat} {v1 : Int32} {h' : Hp}, g_X12_readSum z h v0 v1 = some h' → Ct l s0 E yX12_readSum cX12_readSum 3 none (8 + d) (151 + 60 * d) [.ref v0, .int v1] z h h' (none)) (H_X12_readUnit : ∀ {z : Sh} {h : Hp} {v0 : Nat} {v1 : Int32} {h' : Hp}, g_X12_readUnit z h v0 v1 = some h' → Ct l s0 E yX12_readUnit cX12_readUnit 3 none (8 + d) (151 + 60 * d) [.ref v0, .int v1] z h h' (none)) (H_X12_readBoth : ∀ {z : Sh} {h : Hp} {v0 : Nat} {v1 : Int32} {h' : Hp}, g_X12_readBoth z h v0 v1 = some h' → Ct l s0 E yX12_readBoth cX12_readBoth 2 none (8 + d) (151 + 60 * d) [.ref v0, .int v1] z h h' (none)) (H_X12_readTruth : ∀ {z : Sh} {h : Hp} {v0 : Nat} {v1 : Int32} {h' : Hp}, g_X12_readTruth z h v0 v1 = some h' → Ct l s0 E yX12_readTruth cX12_readTruth 2 none (8 + d) (151 + 60 * d) [.ref v0, .int v1] z h h' (none)) : ∀ (h : Hp) (v0 : Nat) (v1 : Int32) (H : Heap) (locs : List Loc) (ls : Array Slot), Pw s0 s E z h H locs → lv_has ls 2 [(0, .ref v0), (1, .int v1)] → f_X12_readAtom_66 n g_X12_readAtom g_X12_readIf g_X12_readTerm g_X12_readSum g_X12_readUnit g_X12_readBoth g_X12_readTruth z h v0 v1 = some h' → W p l e (rmO (8 + (d + 1)) (151 + 60 * (d + 1))) s m args below meth c H locs 0 0 (Zt below s0 E z h' (none) args s 0 0) (F0 m 66 ls []) := by
  have hx := B.1
  have hb := B.2.1
  intro h v0 v1 H locs ls hw hl hf
  unfold f_X12_readAtom_66 at hf
  refine lv_aload_n hx hb dX12_readAtom_66 rfl (lv_at hl 0 rfl) ?_
  refine lv_bipush (v := 35) hx hb dX12_readAtom_67 (by decide) ?_
  obtain ⟨x1, e, hf⟩ := ob hf
  refine q_callV (As := [.int 35]) (rest := []) (st1 := [.int x1]) (c_X12_is G e) B hw hz hc0 (k_X12_is e) (by decide) (ci := 12) rfl rfl my_X12_is mv_X12_is tw_6_192 ⟨by simp only [rmO, rmA]; omega, by simp only [rmO, rmA]; omega⟩ ⟨Nat.zero_le _, Nat.zero_le _⟩ rfl hl.1 rfl rfl (Nat.le_of_ble_eq_true rfl) dX12_readAtom_69 (fun H locs hw => ?_)
  refine lv_if_eq (tgt := 108) hx hb dX12_readAtom_72 (by decide) (fun c2 => ?_) (fun c2 => ?_)
  · have hf := (if_pos c2).symm.trans hf
    refine lv_aload_n hx hb dX12_readAtom_108 rfl (lv_at hl 0 rfl) ?_
    refine lv_bipush (v := 10) hx hb dX12_readAtom_109 (by decide) ?_
    obtain ⟨x3, e, hf⟩ := ob hf
    refine q_callV (As := [.int 10]) (rest := []) (st1 := [.int x3]) (c_X12_is G e) B hw hz hc0 (k_X12_is e) (by decide) (ci := 12) rfl rfl my_X12_is mv_X12_is tw_6_192 ⟨by simp only [rmO, rmA]; omega, by simp only [rmO, rmA]; omega⟩ ⟨Nat.zero_le _, Nat.zero_le _⟩ rfl hl.1 rfl rfl (Nat.le_of_ble_eq_true rfl) dX12_readAtom_111 (fun H locs hw => ?_)
    refine lv_if_eq (tgt := 125) hx hb dX12_readAtom_114 (by decide) (fun c4 => ?_) (fun c4 => ?_)
    · have hf := (if_pos c4).symm.trans hf
      refine lv_aload_n hx hb dX12_readAtom_125 rfl (lv_at hl 0 rfl) ?_
      refine lv_iconst (v := 2) hx hb dX12_readAtom_126 (by decide) ?_
      obtain ⟨h5, e, hf⟩ := ob hf
      refine q_callV (As := [.int 2]) (rest := []) (st1 := []) (c_X12_fails G e) B hw hz hc0 (k_X12_fails e) (by decide) (ci := 12) rfl rfl my_X12_fails mv_X12_fails tw_6_196 ⟨by simp only [rmO, rmA]; omega, by simp only [rmO, rmA]; omega⟩ ⟨Nat.zero_le _, Nat.zero_le _⟩ rfl hl.1 rfl rfl (Nat.le_of_ble_eq_true rfl) dX12_readAtom_127 (fun H locs hw => ?_)
      obtain rfl := so hf
      exact q_vret B hw hz hc0 hr hlk dX12_readAtom_130
    · have hf := (if_neg c4).symm.trans hf
      refine lv_aload_n hx hb dX12_readAtom_117 rfl (lv_at hl 0 rfl) ?_
      refine lv_iload_n hx hb dX12_readAtom_118 rfl (lv_at hl 1 rfl) ?_
      obtain ⟨_, eK, hf⟩ := ob hf
      obtain ⟨h6, e, hf⟩ := ob hf
      refine q_callV (As := [.int v1]) (rest := []) (st1 := []) (H_X12_readIf e) B hw hz hc0 ((if_some eK).1) (by decide) (ci := 12) rfl rfl my_X12_readIf mv_X12_readIf tw_7_10 ⟨by simp only [rmO, rmA]; omega, by simp only [rmO, rmA]; omega⟩ ⟨Nat.zero_le _, Nat.zero_le _⟩ rfl hl.1 rfl rfl (Nat.le_of_ble_eq_true rfl) dX12_readAtom_119 (fun H locs hw => ?_)
      refine lv_goto (tgt := 130) hx hb dX12_readAtom_122 (by decide) ?_
      obtain rfl := so hf
      exact q_vret B hw hz hc0 hr hlk dX12_readAtom_130
  · have hf := (if_neg c2).symm.trans hf
    refine lv_aload_n hx hb dX12_readAtom_75 rfl (lv_at hl 0 rfl) ?_
    refine lv_iload_n hx hb dX12_readAtom_76 rfl (lv_at hl 1 rfl) ?_
    obtain ⟨⟨x7, h8⟩, e, hf⟩ := ob hf
    refine q_callV (As := [.int v1]) (rest := []) (st1 := [.int x7]) (c_X12_goesIn G e) B hw hz hc0 (k_X12_goesIn e) (by decide) (ci := 12) rfl rfl my_X12_goesIn mv_X12_goesIn tw_7_6 ⟨by simp only [rmO, rmA]; omega, by simp only [rmO, rmA]; omega⟩ ⟨Nat.zero_le _, Nat.zero_le _⟩ rfl hl.1 rfl rfl (Nat.le_of_ble_eq_true rfl) dX12_readAtom_77 (fun H locs hw => ?_)
    refine lv_if_ne (tgt := 84) hx hb dX12_readAtom_80 (by decide) (fun c9 => ?_) (fun c9 => ?_)
    · have hf := (if_neg c9).symm.trans hf
      refine lv_aload_n hx hb dX12_readAtom_84 rfl (lv_at hl 0 rfl) ?_
      refine lv_iload_n hx hb dX12_readAtom_85 rfl (lv_at hl 1 rfl) ?_
      refine lv_iconst (v := 1) hx hb dX12_readAtom_86 (by decide) ?_
      refine lv_iadd hx hb dX12_readAtom_87 ?_
      obtain ⟨_, eK, hf⟩ := ob hf
      obtain ⟨h10, e, hf⟩ := ob hf
      refine q_callV (As := [.int (v1 + 1)]) (rest := []) (st1 := []) (H_X12_readSum e) B hw hz hc0 ((if_some eK).1) (by decide) (ci := 12) rfl rfl my_X12_readSum mv_X12_readSum tw_6_224 ⟨by simp only [rmO, rmA]; omega, by simp only [rmO, rmA]; omega⟩ ⟨Nat.zero_le _, Nat.zero_le _⟩ rfl hl.1 rfl rfl (Nat.le_of_ble_eq_true rfl) dX12_readAtom_88 (fun H locs hw => ?_)
      refine lv_aload_n hx hb dX12_readAtom_91 rfl (lv_at hl 0 rfl) ?_
      refine lv_bipush (v := 36) hx hb dX12_readAtom_92 (by decide) ?_
      obtain ⟨⟨x11, h12⟩, e, hf⟩ := ob hf
      refine q_callV (As := [.int 36]) (rest := []) (st1 := [.int x11]) (c_X12_eats G e) B hw hz hc0 (k_X12_eats e) (by decide) (ci := 12) rfl rfl my_X12_eats mv_X12_eats tw_6_188 ⟨by simp only [rmO, rmA]; omega, by simp only [rmO, rmA]; omega⟩ ⟨Nat.zero_le _, Nat.zero_le _⟩ rfl hl.1 rfl rfl (Nat.le_of_ble_eq_true rfl) dX12_readAtom_94 (fun H locs hw => ?_)
      refine lv_if_ne (tgt := 130) hx hb dX12_readAtom_97 (by decide) (fun c13 => ?_) (fun c13 => ?_)
      · have hf := (if_neg c13).symm.trans hf
        obtain rfl := so hf
        exact q_vret B hw hz hc0 hr hlk dX12_readAtom_130
      · have hf := (if_pos c13).symm.trans hf
        refine lv_aload_n hx hb dX12_readAtom_100 rfl (lv_at hl 0 rfl) ?_
        refine lv_iconst (v := 2) hx hb dX12_readAtom_101 (by decide) ?_
        obtain ⟨h14, e, hf⟩ := ob hf
        refine q_callV (As := [.int 2]) (rest := []) (st1 := []) (c_X12_fails G e) B hw hz hc0 (k_X12_fails e) (by decide) (ci := 12) rfl rfl my_X12_fails mv_X12_fails tw_6_196 ⟨by simp only [rmO, rmA]; omega, by simp only [rmO, rmA]; omega⟩ ⟨Nat.zero_le _, Nat.zero_le _⟩ rfl hl.1 rfl rfl (Nat.le_of_ble_eq_true rfl) dX12_readAtom_102 (fun H locs hw => ?_)
        refine lv_goto (tgt := 130) hx hb dX12_readAtom_105 (by decide) ?_
        obtain rfl := so hf
        exact q_vret B hw hz hc0 hr hlk dX12_readAtom_130
    · have hf := (if_pos c9).symm.trans hf
      obtain rfl := so hf
      exact q_vret B hw hz hc0 hr hlk dX12_readAtom_83
set_option maxHeartbeats 4000000 in
theorem co_X12_readAtom {l : Launch} {s0 : State} {E : Ev} (G : Gl s0 E) {n : Nat} {d : Nat} {g_X12_readAtom : Sh → Hp → Nat → Int32 → Option (Hp)} {g_X12_readIf : Sh → Hp → Nat → Int32 → Option (Hp)} {g_X12_readTerm : Sh → Hp → Nat → Int32 → Option (Hp)} {g_X12_readSum : Sh → Hp → Nat → Int32 → Option (Hp)} {g_X12_readUnit : Sh → Hp → Nat → Int32 → Option (Hp)} {g_X12_readBoth : Sh → Hp → Nat → Int32 → Option (Hp)} {g_X12_readTruth : Sh → Hp → Nat → Int32 → Option (Hp)} (H_X12_readAtom : ∀ {z : Sh} {h : Hp} {v0 : Nat} {v1 : Int32} {h' : Hp}, g_X12_readAtom z h v0 v1 = some h' → Ct l s0 E yX12_readAtom cX12_readAtom 2 none (8 + d) (151 + 60 * d) [.ref v0, .int v1] z h h' (none)) (H_X12_readIf : ∀ {z : Sh} {h : Hp} {v0 : Nat} {v1 : Int32} {h' : Hp}, g_X12_readIf z h v0 v1 = some h' → Ct l s0 E yX12_readIf cX12_readIf 2 none (8 + d) (151 + 60 * d) [.ref v0, .int v1] z h h' (none)) (H_X12_readTerm : ∀ {z : Sh} {h : Hp} {v0 : Nat} {v1 : Int32} {h' : Hp}, g_X12_readTerm z h v0 v1 = some h' → Ct l s0 E yX12_readTerm cX12_readTerm 2 none (8 + d) (151 + 60 * d) [.ref v0, .int v1] z h h' (none)) (H_X12_readSum : ∀ {z : Sh} {h : Hp} {v0 : Nat} {v1 : Int32} {h' : Hp}, g_X12_readSum z h v0 v1 = some h' → Ct l s0 E yX12_readSum cX12_readSum 3 none (8 + d) (151 + 60 * d) [.ref v0, .int v1] z h h' (none)) (H_X12_readUnit : ∀ {z : Sh} {h : Hp} {v0 : Nat} {v1 : Int32} {h' : Hp}, g_X12_readUnit z h v0 v1 = some h' → Ct l s0 E yX12_readUnit cX12_readUnit 3 none (8 + d) (151 + 60 * d) [.ref v0, .int v1] z h h' (none)) (H_X12_readBoth : ∀ {z : Sh} {h : Hp} {v0 : Nat} {v1 : Int32} {h' : Hp}, g_X12_readBoth z h v0 v1 = some h' → Ct l s0 E yX12_readBoth cX12_readBoth 2 none (8 + d) (151 + 60 * d) [.ref v0, .int v1] z h h' (none)) (H_X12_readTruth : ∀ {z : Sh} {h : Hp} {v0 : Nat} {v1 : Int32} {h' : Hp}, g_X12_readTruth z h v0 v1 = some h' → Ct l s0 E yX12_readTruth cX12_readTruth 2 none (8 + d) (151 + 60 * d) [.ref v0, .int v1] z h h' (none)) {z : Sh} {h : Hp} {v0 : Nat} {v1 : Int32} {h' : Hp} (hf : F_X12_readAtom n g_X12_readAtom g_X12_readIf g_X12_readTerm g_X12_readSum g_X12_readUnit g_X12_readBoth g_X12_readTruth z h v0 v1 = some h') : Ct l s0 E yX12_readAtom cX12_readAtom 2 none (8 + (d + 1)) (151 + 60 * (d + 1)) [.ref v0, .int v1] z h h' (none) := by
  refine Ct.of G (by decide) (Nat.le_of_ble_eq_true rfl) ?_
  intro p e s m below meth c ls B hw hz hc0 hr hlk hl
  have B : Bd p s0 s E m c cX12_readAtom 2 RX12 := B
  have hx := B.1
  have hb := B.2.1
  have hl : lv_has ls 2 [(0, .ref v0), (1, .int v1)] := hl
  unfold F_X12_readAtom at hf
  obtain ⟨_, hf⟩ := if_some hf
  refine lv_aload_n hx hb dX12_readAtom_0 rfl (lv_at hl 0 rfl) ?_
  refine lv_bipush (v := 24) hx hb dX12_readAtom_1 (by decide) ?_
  obtain ⟨x1, e, hf⟩ := ob hf
  refine q_callV (As := [.int 24]) (rest := []) (st1 := [.int x1]) (c_X12_is G e) B hw hz hc0 (k_X12_is e) (by decide) (ci := 12) rfl rfl my_X12_is mv_X12_is tw_6_192 ⟨by simp only [rmO, rmA]; omega, by simp only [rmO, rmA]; omega⟩ ⟨Nat.zero_le _, Nat.zero_le _⟩ rfl hl.1 rfl rfl (Nat.le_of_ble_eq_true rfl) dX12_readAtom_3 (fun H locs hw => ?_)
  refine lv_if_eq (tgt := 24) hx hb dX12_readAtom_6 (by decide) (fun c2 => ?_) (fun c2 => ?_)
  · have hf := (if_pos c2).symm.trans hf
    refine lv_aload_n hx hb dX12_readAtom_24 rfl (lv_at hl 0 rfl) ?_
    obtain ⟨x3, e, hf⟩ := ob hf
    refine q_getI e B hw fd_12_11.1 fd_12_11.2.1 fd_12_11.2.2.1 fd_12_11.2.2.2.1 fd_12_11.2.2.2.2 rfl tw_6_54 dX12_readAtom_25 ?_
    refine lv_if_ne (tgt := 66) hx hb dX12_readAtom_28 (by decide) (fun c4 => ?_) (fun c4 => ?_)
    · have hf := (if_neg c4).symm.trans hf
      exact w_X12_readAtom_66 G B hz hc0 hr hlk H_X12_readAtom H_X12_readIf H_X12_readTerm H_X12_readSum H_X12_readUnit H_X12_readBoth H_X12_readTruth  h v0 v1 _ _ _ hw (lv_sub hl [0, 1] rfl) hf
    · have hf := (if_pos c4).symm.trans hf
      refine lv_aload_n hx hb dX12_readAtom_31 rfl (lv_at hl 0 rfl) ?_
      refine lv_aload_n hx hb dX12_readAtom_32 rfl (lv_at hl 0 rfl) ?_
      obtain ⟨x5, e, hf⟩ := ob hf
      refine q_getI e B hw fd_12_9.1 fd_12_9.2.1 fd_12_9.2.2.1 fd_12_9.2.2.2.1 fd_12_9.2.2.2.2 rfl tw_6_52 dX12_readAtom_33 ?_
      obtain ⟨x6, e, hf⟩ := ob hf
      refine q_callV (As := [.int x5]) (rest := []) (st1 := [.int x6]) (c_X12_wordOf G e) B hw hz hc0 (k_X12_wordOf e) (by decide) (ci := 12) rfl rfl my_X12_wordOf mv_X12_wordOf tw_7_0 ⟨by simp only [rmO, rmA]; omega, by simp only [rmO, rmA]; omega⟩ ⟨Nat.zero_le _, Nat.zero_le _⟩ rfl hl.1 rfl rfl (Nat.le_of_ble_eq_true rfl) dX12_readAtom_36 (fun H locs hw => ?_)
      refine lv_iconst (v := (-1)) hx hb dX12_readAtom_39 (by decide) ?_
      refine lv_icmp_eq (tgt := 66) hx hb dX12_readAtom_40 (by decide) (fun c7 => ?_) (fun c7 => ?_)
      · have hf := (if_pos c7).symm.trans hf
        exact w_X12_readAtom_66 G B hz hc0 hr hlk H_X12_readAtom H_X12_readIf H_X12_readTerm H_X12_readSum H_X12_readUnit H_X12_readBoth H_X12_readTruth  h v0 v1 _ _ _ hw (lv_sub hl [0, 1] rfl) hf
      · have hf := (if_neg c7).symm.trans hf
        refine lv_aload_n hx hb dX12_readAtom_43 rfl (lv_at hl 0 rfl) ?_
        refine lv_sipush (v := 1000) hx hb dX12_readAtom_44 (by decide) ?_
        refine lv_aload_n hx hb dX12_readAtom_47 rfl (lv_at hl 0 rfl) ?_
        refine lv_aload_n hx hb dX12_readAtom_48 rfl (lv_at hl 0 rfl) ?_
        obtain ⟨x8, e, hf⟩ := ob hf
        refine q_getI e B hw fd_12_9.1 fd_12_9.2.1 fd_12_9.2.2.1 fd_12_9.2.2.2.1 fd_12_9.2.2.2.2 rfl tw_6_52 dX12_readAtom_49 ?_
        obtain ⟨x9, e, hf⟩ := ob hf
        refine q_callV (As := [.int x8]) (rest := [.int 1000, .ref v0]) (st1 := [.int x9, .int 1000, .ref v0]) (c_X12_wordOf G e) B hw hz hc0 (k_X12_wordOf e) (by decide) (ci := 12) rfl rfl my_X12_wordOf mv_X12_wordOf tw_7_0 ⟨by simp only [rmO, rmA]; omega, by simp only [rmO, rmA]; omega⟩ ⟨Nat.zero_le _, Nat.zero_le _⟩ rfl hl.1 rfl rfl (Nat.le_of_ble_eq_true rfl) dX12_readAtom_52 (fun H locs hw => ?_)
        refine lv_iadd hx hb dX12_readAtom_55 ?_
        obtain ⟨h10, e, hf⟩ := ob hf
        refine q_callV (As := [.int (1000 + x9)]) (rest := []) (st1 := []) (c_X12_codes G e) B hw hz hc0 (k_X12_codes e) (by decide) (ci := 12) rfl rfl my_X12_codes mv_X12_codes tw_6_236 ⟨by simp only [rmO, rmA]; omega, by simp only [rmO, rmA]; omega⟩ ⟨Nat.zero_le _, Nat.zero_le _⟩ rfl hl.1 rfl rfl (Nat.le_of_ble_eq_true rfl) dX12_readAtom_56 (fun H locs hw => ?_)
        refine lv_aload_n hx hb dX12_readAtom_59 rfl (lv_at hl 0 rfl) ?_
        obtain ⟨h11, e, hf⟩ := ob hf
        refine q_callV (As := []) (rest := []) (st1 := []) (c_X12_next G e) B hw hz hc0 (k_X12_next e) (by decide) (ci := 12) rfl rfl my_X12_next mv_X12_next tw_6_166 ⟨by simp only [rmO, rmA]; omega, by simp only [rmO, rmA]; omega⟩ ⟨Nat.zero_le _, Nat.zero_le _⟩ rfl hl.1 rfl rfl (Nat.le_of_ble_eq_true rfl) dX12_readAtom_60 (fun H locs hw => ?_)
        refine lv_goto (tgt := 130) hx hb dX12_readAtom_63 (by decide) ?_
        obtain rfl := so hf
        exact q_vret B hw hz hc0 hr hlk dX12_readAtom_130
  · have hf := (if_neg c2).symm.trans hf
    refine lv_aload_n hx hb dX12_readAtom_9 rfl (lv_at hl 0 rfl) ?_
    refine lv_aload_n hx hb dX12_readAtom_10 rfl (lv_at hl 0 rfl) ?_
    obtain ⟨x12, e, hf⟩ := ob hf
    refine q_getI e B hw fd_12_10.1 fd_12_10.2.1 fd_12_10.2.2.1 fd_12_10.2.2.2.1 fd_12_10.2.2.2.2 rfl tw_6_53 dX12_readAtom_11 ?_
    obtain ⟨h13, e, hf⟩ := ob hf
    refine q_callV (As := [.int x12]) (rest := []) (st1 := []) (c_X12_codes G e) B hw hz hc0 (k_X12_codes e) (by decide) (ci := 12) rfl rfl my_X12_codes mv_X12_codes tw_6_236 ⟨by simp only [rmO, rmA]; omega, by simp only [rmO, rmA]; omega⟩ ⟨Nat.zero_le _, Nat.zero_le _⟩ rfl hl.1 rfl rfl (Nat.le_of_ble_eq_true rfl) dX12_readAtom_14 (fun H locs hw => ?_)
    refine lv_aload_n hx hb dX12_readAtom_17 rfl (lv_at hl 0 rfl) ?_
    obtain ⟨h14, e, hf⟩ := ob hf
    refine q_callV (As := []) (rest := []) (st1 := []) (c_X12_next G e) B hw hz hc0 (k_X12_next e) (by decide) (ci := 12) rfl rfl my_X12_next mv_X12_next tw_6_166 ⟨by simp only [rmO, rmA]; omega, by simp only [rmO, rmA]; omega⟩ ⟨Nat.zero_le _, Nat.zero_le _⟩ rfl hl.1 rfl rfl (Nat.le_of_ble_eq_true rfl) dX12_readAtom_18 (fun H locs hw => ?_)
    refine lv_goto (tgt := 130) hx hb dX12_readAtom_21 (by decide) ?_
    obtain rfl := so hf
    exact q_vret B hw hz hc0 hr hlk dX12_readAtom_130
set_option maxHeartbeats 4000000 in
theorem w_X12_readIf_72 {p : Program} {l : Launch} {e : Env} {s : State} {m : MethodId} {args : Array Value} {below : List Frame} {meth : Method} {c : Code} {s0 : State} {E : Ev} {z : Sh} {d : Nat} {g_X12_readAtom : Sh → Hp → Nat → Int32 → Option (Hp)} {g_X12_readIf : Sh → Hp → Nat → Int32 → Option (Hp)} {g_X12_readTerm : Sh → Hp → Nat → Int32 → Option (Hp)} {g_X12_readSum : Sh → Hp → Nat → Int32 → Option (Hp)} {g_X12_readUnit : Sh → Hp → Nat → Int32 → Option (Hp)} {g_X12_readBoth : Sh → Hp → Nat → Int32 → Option (Hp)} {g_X12_readTruth : Sh → Hp → Nat → Int32 → Option (Hp)} {n : Nat} {h' : Hp} (G : Gl s0 E) (B : Bd p s0 s E m c cX12_readIf 2 RX12) (hz : s0.heap.size ≤ z.sz) (hc0 : s.heap.size + 0 = z.sz) (hr : meth.sig.returnType = none) (hlk : meth.locks = false) (H_X12_readAtom : ∀ {z : Sh} {h : Hp} {v0 : Nat} {v1 : Int32} {h' : Hp}, g_X12_readAtom z h v0 v1 = some h' → Ct l s0 E yX12_readAtom cX12_readAtom 2 none (8 + d) (151 + 60 * d) [.ref v0, .int v1] z h h' (none)) (H_X12_readIf : ∀ {z : Sh} {h : Hp} {v0 : Nat} {v1 : Int32} {h' : Hp}, g_X12_readIf z h v0 v1 = some h' → Ct l s0 E yX12_readIf cX12_readIf 2 none (8 + d) (151 + 60 * d) [.ref v0, .int v1] z h h' (none)) (H_X12_readTerm : ∀ {z : Sh} {h : Hp} {v0 : Nat} {v1 : Int32} {h' : Hp}, g_X12_readTerm z h v0 v1 = some h' → Ct l s0 E yX12_readTerm cX12_readTerm 2 none (8 + d) (151 + 60 * d) [.ref v0, .int v1] z h h' (none)) (H_X12_readSum : ∀ {z : Sh} {h : Hp} {v0 : Nat} {v1 : Int32} {h' : Hp}, g_X12_readSum z h v0 v1 = some h' → Ct l s0 E yX12_readSum cX12_readSum 3 none (8 + d) (151 + 60 * d) [.ref v0, .int v1] z h h' (none)) (H_X12_readUnit : ∀ {z : Sh} {h : Hp} {v0 : Nat} {v1 : Int32} {h' : Hp}, g_X12_readUnit z h v0 v1 = some h' → Ct l s0 E yX12_readUnit cX12_readUnit 3 none (8 + d) (151 + 60 * d) [.ref v0, .int v1] z h h' (none)) (H_X12_readBoth : ∀ {z : Sh} {h : Hp} {v0 : Nat} {v1 : Int32} {h' : Hp}, g_X12_readBoth z h v0 v1 = some h' → Ct l s0 E yX12_readBoth cX12_readBoth 2 none (8 + d) (151 + 60 * d) [.ref v0, .int v1] z h h' (none)) (H_X12_readTruth : ∀ {z : Sh} {h : Hp} {v0 : Nat} {v1 : Int32} {h' : Hp}, g_X12_readTruth z h v0 v1 = some h' → Ct l s0 E yX12_readTruth cX12_readTruth 2 none (8 + d) (151 + 60 * d) [.ref v0, .int v1] z h h' (none)) : ∀ (h : Hp) (v0 : Nat) (H : Heap) (locs : List Loc) (ls : Array Slot), Pw s0 s E z h H locs → lv_has ls 2 [(0, .ref v0)] → f_X12_readIf_72 n g_X12_readAtom g_X12_readIf g_X12_readTerm g_X12_readSum g_X12_readUnit g_X12_readBoth g_X12_readTruth z h v0 = some h' → W p l e (rmO (8 + (d + 1)) (151 + 60 * (d + 1))) s m args below meth c H locs 0 0 (Zt below s0 E z h' (none) args s 0 0) (F0 m 72 ls []) := by
  have hx := B.1
  have hb := B.2.1
  intro h v0 H locs ls hw hl hf
  unfold f_X12_readIf_72 at hf
  refine lv_aload_n hx hb dX12_readIf_72 rfl (lv_at hl 0 rfl) ?_
  refine lv_sipush (v := 3009) hx hb dX12_readIf_73 (by decide) ?_
  obtain ⟨h1, e, hf⟩ := ob hf
  refine q_callV (As := [.int 3009]) (rest := []) (st1 := []) (c_X12_codes G e) B hw hz hc0 (k_X12_codes e) (by decide) (ci := 12) rfl rfl my_X12_codes mv_X12_codes tw_6_236 ⟨by simp only [rmO, rmA]; omega, by simp only [rmO, rmA]; omega⟩ ⟨Nat.zero_le _, Nat.zero_le _⟩ rfl hl.1 rfl rfl (Nat.le_of_ble_eq_true rfl) dX12_readIf_76 (fun H locs hw => ?_)
  obtain rfl := so hf
  exact q_vret B hw hz hc0 hr hlk dX12_readIf_79
set_option maxHeartbeats 4000000 in
theorem w_X12_readIf_51 {p : Program} {l : Launch} {e : Env} {s : State} {m : MethodId} {args : Array Value} {below : List Frame} {meth : Method} {c : Code} {s0 : State} {E : Ev} {z : Sh} {d : Nat} {g_X12_readAtom : Sh → Hp → Nat → Int32 → Option (Hp)} {g_X12_readIf : Sh → Hp → Nat → Int32 → Option (Hp)} {g_X12_readTerm : Sh → Hp → Nat → Int32 → Option (Hp)} {g_X12_readSum : Sh → Hp → Nat → Int32 → Option (Hp)} {g_X12_readUnit : Sh → Hp → Nat → Int32 → Option (Hp)} {g_X12_readBoth : Sh → Hp → Nat → Int32 → Option (Hp)} {g_X12_readTruth : Sh → Hp → Nat → Int32 → Option (Hp)} {n : Nat} {h' : Hp} (G : Gl s0 E) (B : Bd p s0 s E m c cX12_readIf 2 RX12) (hz : s0.heap.size ≤ z.sz) (hc0 : s.heap.size + 0 = z.sz) (hr : meth.sig.returnType = none) (hlk : meth.locks = false) (H_X12_readAtom : ∀ {z : Sh} {h : Hp} {v0 : Nat} {v1 : Int32} {h' : Hp}, g_X12_readAtom z h v0 v1 = some h' → Ct l s0 E yX12_readAtom cX12_readAtom 2 none (8 + d) (151 + 60 * d) [.ref v0, .int v1] z h h' (none)) (H_X12_readIf : ∀ {z : Sh} {h : Hp} {v0 : Nat} {v1 : Int32} {h' : Hp}, g_X12_readIf z h v0 v1 = some h' → Ct l s0 E yX12_readIf cX12_readIf 2 none (8 + d) (151 + 60 * d) [.ref v0, .int v1] z h h' (none)) (H_X12_readTerm : ∀ {z : Sh} {h : Hp} {v0 : Nat} {v1 : Int32} {h' : Hp}, g_X12_readTerm z h v0 v1 = some h' → Ct l s0 E yX12_readTerm cX12_readTerm 2 none (8 + d) (151 + 60 * d) [.ref v0, .int v1] z h h' (none)) (H_X12_readSum : ∀ {z : Sh} {h : Hp} {v0 : Nat} {v1 : Int32} {h' : Hp}, g_X12_readSum z h v0 v1 = some h' → Ct l s0 E yX12_readSum cX12_readSum 3 none (8 + d) (151 + 60 * d) [.ref v0, .int v1] z h h' (none)) (H_X12_readUnit : ∀ {z : Sh} {h : Hp} {v0 : Nat} {v1 : Int32} {h' : Hp}, g_X12_readUnit z h v0 v1 = some h' → Ct l s0 E yX12_readUnit cX12_readUnit 3 none (8 + d) (151 + 60 * d) [.ref v0, .int v1] z h h' (none)) (H_X12_readBoth : ∀ {z : Sh} {h : Hp} {v0 : Nat} {v1 : Int32} {h' : Hp}, g_X12_readBoth z h v0 v1 = some h' → Ct l s0 E yX12_readBoth cX12_readBoth 2 none (8 + d) (151 + 60 * d) [.ref v0, .int v1] z h h' (none)) (H_X12_readTruth : ∀ {z : Sh} {h : Hp} {v0 : Nat} {v1 : Int32} {h' : Hp}, g_X12_readTruth z h v0 v1 = some h' → Ct l s0 E yX12_readTruth cX12_readTruth 2 none (8 + d) (151 + 60 * d) [.ref v0, .int v1] z h h' (none)) : ∀ (h : Hp) (v0 : Nat) (v1 : Int32) (H : Heap) (locs : List Loc) (ls : Array Slot), Pw s0 s E z h H locs → lv_has ls 2 [(0, .ref v0), (1, .int v1)] → f_X12_readIf_51 n g_X12_readAtom g_X12_readIf g_X12_readTerm g_X12_readSum g_X12_readUnit g_X12_readBoth g_X12_readTruth z h v0 v1 = some h' → W p l e (rmO (8 + (d + 1)) (151 + 60 * (d + 1))) s m args below meth c H locs 0 0 (Zt below s0 E z h' (none) args s 0 0) (F0 m 51 ls []) := by
  have hx := B.1
  have hb := B.2.1
  intro h v0 v1 H locs ls hw hl hf
  unfold f_X12_readIf_51 at hf
  refine lv_aload_n hx hb dX12_readIf_51 rfl (lv_at hl 0 rfl) ?_
  refine lv_iload_n hx hb dX12_readIf_52 rfl (lv_at hl 1 rfl) ?_
  refine lv_iconst (v := 1) hx hb dX12_readIf_53 (by decide) ?_
  refine lv_iadd hx hb dX12_readIf_54 ?_
  obtain ⟨_, eK, hf⟩ := ob hf
  obtain ⟨h1, e, hf⟩ := ob hf
  refine q_callV (As := [.int (v1 + 1)]) (rest := []) (st1 := []) (H_X12_readSum e) B hw hz hc0 ((if_some eK).1) (by decide) (ci := 12) rfl rfl my_X12_readSum mv_X12_readSum tw_6_224 ⟨by simp only [rmO, rmA]; omega, by simp only [rmO, rmA]; omega⟩ ⟨Nat.zero_le _, Nat.zero_le _⟩ rfl hl.1 rfl rfl (Nat.le_of_ble_eq_true rfl) dX12_readIf_55 (fun H locs hw => ?_)
  refine lv_aload_n hx hb dX12_readIf_58 rfl (lv_at hl 0 rfl) ?_
  refine lv_bipush (v := 13) hx hb dX12_readIf_59 (by decide) ?_
  obtain ⟨⟨x2, h3⟩, e, hf⟩ := ob hf
  refine q_callV (As := [.int 13]) (rest := []) (st1 := [.int x2]) (c_X12_eats G e) B hw hz hc0 (k_X12_eats e) (by decide) (ci := 12) rfl rfl my_X12_eats mv_X12_eats tw_6_188 ⟨by simp only [rmO, rmA]; omega, by simp only [rmO, rmA]; omega⟩ ⟨Nat.zero_le _, Nat.zero_le _⟩ rfl hl.1 rfl rfl (Nat.le_of_ble_eq_true rfl) dX12_readIf_61 (fun H locs hw => ?_)
  refine lv_if_ne (tgt := 72) hx hb dX12_readIf_64 (by decide) (fun c4 => ?_) (fun c4 => ?_)
  · have hf := (if_neg c4).symm.trans hf
    exact w_X12_readIf_72 G B hz hc0 hr hlk H_X12_readAtom H_X12_readIf H_X12_readTerm H_X12_readSum H_X12_readUnit H_X12_readBoth H_X12_readTruth  h3 v0 _ _ _ hw (lv_sub hl [0] rfl) hf
  · have hf := (if_pos c4).symm.trans hf
    refine lv_aload_n hx hb dX12_readIf_67 rfl (lv_at hl 0 rfl) ?_
    refine lv_iconst (v := 2) hx hb dX12_readIf_68 (by decide) ?_
    obtain ⟨h5, e, hf⟩ := ob hf
    refine q_callV (As := [.int 2]) (rest := []) (st1 := []) (c_X12_fails G e) B hw hz hc0 (k_X12_fails e) (by decide) (ci := 12) rfl rfl my_X12_fails mv_X12_fails tw_6_196 ⟨by simp only [rmO, rmA]; omega, by simp only [rmO, rmA]; omega⟩ ⟨Nat.zero_le _, Nat.zero_le _⟩ rfl hl.1 rfl rfl (Nat.le_of_ble_eq_true rfl) dX12_readIf_69 (fun H locs hw => ?_)
    exact w_X12_readIf_72 G B hz hc0 hr hlk H_X12_readAtom H_X12_readIf H_X12_readTerm H_X12_readSum H_X12_readUnit H_X12_readBoth H_X12_readTruth  h5 v0 _ _ _ hw (lv_sub hl [0] rfl) hf
set_option maxHeartbeats 4000000 in
theorem w_X12_readIf_30 {p : Program} {l : Launch} {e : Env} {s : State} {m : MethodId} {args : Array Value} {below : List Frame} {meth : Method} {c : Code} {s0 : State} {E : Ev} {z : Sh} {d : Nat} {g_X12_readAtom : Sh → Hp → Nat → Int32 → Option (Hp)} {g_X12_readIf : Sh → Hp → Nat → Int32 → Option (Hp)} {g_X12_readTerm : Sh → Hp → Nat → Int32 → Option (Hp)} {g_X12_readSum : Sh → Hp → Nat → Int32 → Option (Hp)} {g_X12_readUnit : Sh → Hp → Nat → Int32 → Option (Hp)} {g_X12_readBoth : Sh → Hp → Nat → Int32 → Option (Hp)} {g_X12_readTruth : Sh → Hp → Nat → Int32 → Option (Hp)} {n : Nat} {h' : Hp} (G : Gl s0 E) (B : Bd p s0 s E m c cX12_readIf 2 RX12) (hz : s0.heap.size ≤ z.sz) (hc0 : s.heap.size + 0 = z.sz) (hr : meth.sig.returnType = none) (hlk : meth.locks = false) (H_X12_readAtom : ∀ {z : Sh} {h : Hp} {v0 : Nat} {v1 : Int32} {h' : Hp}, g_X12_readAtom z h v0 v1 = some h' → Ct l s0 E yX12_readAtom cX12_readAtom 2 none (8 + d) (151 + 60 * d) [.ref v0, .int v1] z h h' (none)) (H_X12_readIf : ∀ {z : Sh} {h : Hp} {v0 : Nat} {v1 : Int32} {h' : Hp}, g_X12_readIf z h v0 v1 = some h' → Ct l s0 E yX12_readIf cX12_readIf 2 none (8 + d) (151 + 60 * d) [.ref v0, .int v1] z h h' (none)) (H_X12_readTerm : ∀ {z : Sh} {h : Hp} {v0 : Nat} {v1 : Int32} {h' : Hp}, g_X12_readTerm z h v0 v1 = some h' → Ct l s0 E yX12_readTerm cX12_readTerm 2 none (8 + d) (151 + 60 * d) [.ref v0, .int v1] z h h' (none)) (H_X12_readSum : ∀ {z : Sh} {h : Hp} {v0 : Nat} {v1 : Int32} {h' : Hp}, g_X12_readSum z h v0 v1 = some h' → Ct l s0 E yX12_readSum cX12_readSum 3 none (8 + d) (151 + 60 * d) [.ref v0, .int v1] z h h' (none)) (H_X12_readUnit : ∀ {z : Sh} {h : Hp} {v0 : Nat} {v1 : Int32} {h' : Hp}, g_X12_readUnit z h v0 v1 = some h' → Ct l s0 E yX12_readUnit cX12_readUnit 3 none (8 + d) (151 + 60 * d) [.ref v0, .int v1] z h h' (none)) (H_X12_readBoth : ∀ {z : Sh} {h : Hp} {v0 : Nat} {v1 : Int32} {h' : Hp}, g_X12_readBoth z h v0 v1 = some h' → Ct l s0 E yX12_readBoth cX12_readBoth 2 none (8 + d) (151 + 60 * d) [.ref v0, .int v1] z h h' (none)) (H_X12_readTruth : ∀ {z : Sh} {h : Hp} {v0 : Nat} {v1 : Int32} {h' : Hp}, g_X12_readTruth z h v0 v1 = some h' → Ct l s0 E yX12_readTruth cX12_readTruth 2 none (8 + d) (151 + 60 * d) [.ref v0, .int v1] z h h' (none)) : ∀ (h : Hp) (v0 : Nat) (v1 : Int32) (H : Heap) (locs : List Loc) (ls : Array Slot), Pw s0 s E z h H locs → lv_has ls 2 [(0, .ref v0), (1, .int v1)] → f_X12_readIf_30 n g_X12_readAtom g_X12_readIf g_X12_readTerm g_X12_readSum g_X12_readUnit g_X12_readBoth g_X12_readTruth z h v0 v1 = some h' → W p l e (rmO (8 + (d + 1)) (151 + 60 * (d + 1))) s m args below meth c H locs 0 0 (Zt below s0 E z h' (none) args s 0 0) (F0 m 30 ls []) := by
  have hx := B.1
  have hb := B.2.1
  intro h v0 v1 H locs ls hw hl hf
  unfold f_X12_readIf_30 at hf
  refine lv_aload_n hx hb dX12_readIf_30 rfl (lv_at hl 0 rfl) ?_
  refine lv_iload_n hx hb dX12_readIf_31 rfl (lv_at hl 1 rfl) ?_
  refine lv_iconst (v := 1) hx hb dX12_readIf_32 (by decide) ?_
  refine lv_iadd hx hb dX12_readIf_33 ?_
  obtain ⟨_, eK, hf⟩ := ob hf
  obtain ⟨h1, e, hf⟩ := ob hf
  refine q_callV (As := [.int (v1 + 1)]) (rest := []) (st1 := []) (H_X12_readSum e) B hw hz hc0 ((if_some eK).1) (by decide) (ci := 12) rfl rfl my_X12_readSum mv_X12_readSum tw_6_224 ⟨by simp only [rmO, rmA]; omega, by simp only [rmO, rmA]; omega⟩ ⟨Nat.zero_le _, Nat.zero_le _⟩ rfl hl.1 rfl rfl (Nat.le_of_ble_eq_true rfl) dX12_readIf_34 (fun H locs hw => ?_)
  refine lv_aload_n hx hb dX12_readIf_37 rfl (lv_at hl 0 rfl) ?_
  refine lv_bipush (v := 12) hx hb dX12_readIf_38 (by decide) ?_
  obtain ⟨⟨x2, h3⟩, e, hf⟩ := ob hf
  refine q_callV (As := [.int 12]) (rest := []) (st1 := [.int x2]) (c_X12_eats G e) B hw hz hc0 (k_X12_eats e) (by decide) (ci := 12) rfl rfl my_X12_eats mv_X12_eats tw_6_188 ⟨by simp only [rmO, rmA]; omega, by simp only [rmO, rmA]; omega⟩ ⟨Nat.zero_le _, Nat.zero_le _⟩ rfl hl.1 rfl rfl (Nat.le_of_ble_eq_true rfl) dX12_readIf_40 (fun H locs hw => ?_)
  refine lv_if_ne (tgt := 51) hx hb dX12_readIf_43 (by decide) (fun c4 => ?_) (fun c4 => ?_)
  · have hf := (if_neg c4).symm.trans hf
    exact w_X12_readIf_51 G B hz hc0 hr hlk H_X12_readAtom H_X12_readIf H_X12_readTerm H_X12_readSum H_X12_readUnit H_X12_readBoth H_X12_readTruth  h3 v0 v1 _ _ _ hw (lv_sub hl [0, 1] rfl) hf
  · have hf := (if_pos c4).symm.trans hf
    refine lv_aload_n hx hb dX12_readIf_46 rfl (lv_at hl 0 rfl) ?_
    refine lv_iconst (v := 2) hx hb dX12_readIf_47 (by decide) ?_
    obtain ⟨h5, e, hf⟩ := ob hf
    refine q_callV (As := [.int 2]) (rest := []) (st1 := []) (c_X12_fails G e) B hw hz hc0 (k_X12_fails e) (by decide) (ci := 12) rfl rfl my_X12_fails mv_X12_fails tw_6_196 ⟨by simp only [rmO, rmA]; omega, by simp only [rmO, rmA]; omega⟩ ⟨Nat.zero_le _, Nat.zero_le _⟩ rfl hl.1 rfl rfl (Nat.le_of_ble_eq_true rfl) dX12_readIf_48 (fun H locs hw => ?_)
    exact w_X12_readIf_51 G B hz hc0 hr hlk H_X12_readAtom H_X12_readIf H_X12_readTerm H_X12_readSum H_X12_readUnit H_X12_readBoth H_X12_readTruth  h5 v0 v1 _ _ _ hw (lv_sub hl [0, 1] rfl) hf
set_option maxHeartbeats 4000000 in
theorem co_X12_readIf {l : Launch} {s0 : State} {E : Ev} (G : Gl s0 E) {n : Nat} {d : Nat} {g_X12_readAtom : Sh → Hp → Nat → Int32 → Option (Hp)} {g_X12_readIf : Sh → Hp → Nat → Int32 → Option (Hp)} {g_X12_readTerm : Sh → Hp → Nat → Int32 → Option (Hp)} {g_X12_readSum : Sh → Hp → Nat → Int32 → Option (Hp)} {g_X12_readUnit : Sh → Hp → Nat → Int32 → Option (Hp)} {g_X12_readBoth : Sh → Hp → Nat → Int32 → Option (Hp)} {g_X12_readTruth : Sh → Hp → Nat → Int32 → Option (Hp)} (H_X12_readAtom : ∀ {z : Sh} {h : Hp} {v0 : Nat} {v1 : Int32} {h' : Hp}, g_X12_readAtom z h v0 v1 = some h' → Ct l s0 E yX12_readAtom cX12_readAtom 2 none (8 + d) (151 + 60 * d) [.ref v0, .int v1] z h h' (none)) (H_X12_readIf : ∀ {z : Sh} {h : Hp} {v0 : Nat} {v1 : Int32} {h' : Hp}, g_X12_readIf z h v0 v1 = some h' → Ct l s0 E yX12_readIf cX12_readIf 2 none (8 + d) (151 + 60 * d) [.ref v0, .int v1] z h h' (none)) (H_X12_readTerm : ∀ {z : Sh} {h : Hp} {v0 : Nat} {v1 : Int32} {h' : Hp}, g_X12_readTerm z h v0 v1 = some h' → Ct l s0 E yX12_readTerm cX12_readTerm 2 none (8 + d) (151 + 60 * d) [.ref v0, .int v1] z h h' (none)) (H_X12_readSum : ∀ {z : Sh} {h : Hp} {v0 : Nat} {v1 : Int32} {h' : Hp}, g_X12_readSum z h v0 v1 = some h' → Ct l s0 E yX12_readSum cX12_readSum 3 none (8 + d) (151 + 60 * d) [.ref v0, .int v1] z h h' (none)) (H_X12_readUnit : ∀ {z : Sh} {h : Hp} {v0 : Nat} {v1 : Int32} {h' : Hp}, g_X12_readUnit z h v0 v1 = some h' → Ct l s0 E yX12_readUnit cX12_readUnit 3 none (8 + d) (151 + 60 * d) [.ref v0, .int v1] z h h' (none)) (H_X12_readBoth : ∀ {z : Sh} {h : Hp} {v0 : Nat} {v1 : Int32} {h' : Hp}, g_X12_readBoth z h v0 v1 = some h' → Ct l s0 E yX12_readBoth cX12_readBoth 2 none (8 + d) (151 + 60 * d) [.ref v0, .int v1] z h h' (none)) (H_X12_readTruth : ∀ {z : Sh} {h : Hp} {v0 : Nat} {v1 : Int32} {h' : Hp}, g_X12_readTruth z h v0 v1 = some h' → Ct l s0 E yX12_readTruth cX12_readTruth 2 none (8 + d) (151 + 60 * d) [.ref v0, .int v1] z h h' (none)) {z : Sh} {h : Hp} {v0 : Nat} {v1 : Int32} {h' : Hp} (hf : F_X12_readIf n g_X12_readAtom g_X12_readIf g_X12_readTerm g_X12_readSum g_X12_readUnit g_X12_readBoth g_X12_readTruth z h v0 v1 = some h') : Ct l s0 E yX12_readIf cX12_readIf 2 none (8 + (d + 1)) (151 + 60 * (d + 1)) [.ref v0, .int v1] z h h' (none) := by
  refine Ct.of G (by decide) (Nat.le_of_ble_eq_true rfl) ?_
  intro p e s m below meth c ls B hw hz hc0 hr hlk hl
  have B : Bd p s0 s E m c cX12_readIf 2 RX12 := B
  have hx := B.1
  have hb := B.2.1
  have hl : lv_has ls 2 [(0, .ref v0), (1, .int v1)] := hl
  unfold F_X12_readIf at hf
  obtain ⟨_, hf⟩ := if_some hf
  refine lv_aload_n hx hb dX12_readIf_0 rfl (lv_at hl 0 rfl) ?_
  refine lv_iload_n hx hb dX12_readIf_1 rfl (lv_at hl 1 rfl) ?_
  obtain ⟨⟨x1, h2⟩, e, hf⟩ := ob hf
  refine q_callV (As := [.int v1]) (rest := []) (st1 := [.int x1]) (c_X12_goesIn G e) B hw hz hc0 (k_X12_goesIn e) (by decide) (ci := 12) rfl rfl my_X12_goesIn mv_X12_goesIn tw_7_6 ⟨by simp only [rmO, rmA]; omega, by simp only [rmO, rmA]; omega⟩ ⟨Nat.zero_le _, Nat.zero_le _⟩ rfl hl.1 rfl rfl (Nat.le_of_ble_eq_true rfl) dX12_readIf_2 (fun H locs hw => ?_)
  refine lv_if_ne (tgt := 9) hx hb dX12_readIf_5 (by decide) (fun c3 => ?_) (fun c3 => ?_)
  · have hf := (if_neg c3).symm.trans hf
    refine lv_aload_n hx hb dX12_readIf_9 rfl (lv_at hl 0 rfl) ?_
    refine lv_iload_n hx hb dX12_readIf_10 rfl (lv_at hl 1 rfl) ?_
    refine lv_iconst (v := 1) hx hb dX12_readIf_11 (by decide) ?_
    refine lv_iadd hx hb dX12_readIf_12 ?_
    obtain ⟨_, eK, hf⟩ := ob hf
    obtain ⟨h4, e, hf⟩ := ob hf
    refine q_callV (As := [.int (v1 + 1)]) (rest := []) (st1 := []) (H_X12_readTruth e) B hw hz hc0 ((if_some eK).1) (by decide) (ci := 12) rfl rfl my_X12_readTruth mv_X12_readTruth tw_7_14 ⟨by simp only [rmO, rmA]; omega, by simp only [rmO, rmA]; omega⟩ ⟨Nat.zero_le _, Nat.zero_le _⟩ rfl hl.1 rfl rfl (Nat.le_of_ble_eq_true rfl) dX12_readIf_13 (fun H locs hw => ?_)
    refine lv_aload_n hx hb dX12_readIf_16 rfl (lv_at hl 0 rfl) ?_
    refine lv_bipush (v := 11) hx hb dX12_readIf_17 (by decide) ?_
    obtain ⟨⟨x5, h6⟩, e, hf⟩ := ob hf
    refine q_callV (As := [.int 11]) (rest := []) (st1 := [.int x5]) (c_X12_eats G e) B hw hz hc0 (k_X12_eats e) (by decide) (ci := 12) rfl rfl my_X12_eats mv_X12_eats tw_6_188 ⟨by simp only [rmO, rmA]; omega, by simp only [rmO, rmA]; omega⟩ ⟨Nat.zero_le _, Nat.zero_le _⟩ rfl hl.1 rfl rfl (Nat.le_of_ble_eq_true rfl) dX12_readIf_19 (fun H locs hw => ?_)
    refine lv_if_ne (tgt := 30) hx hb dX12_readIf_22 (by decide) (fun c7 => ?_) (fun c7 => ?_)
    · have hf := (if_neg c7).symm.trans hf
      exact w_X12_readIf_30 G B hz hc0 hr hlk H_X12_readAtom H_X12_readIf H_X12_readTerm H_X12_readSum H_X12_readUnit H_X12_readBoth H_X12_readTruth  h6 v0 v1 _ _ _ hw (lv_sub hl [0, 1] rfl) hf
    · have hf := (if_pos c7).symm.trans hf
      refine lv_aload_n hx hb dX12_readIf_25 rfl (lv_at hl 0 rfl) ?_
      refine lv_iconst (v := 2) hx hb dX12_readIf_26 (by decide) ?_
      obtain ⟨h8, e, hf⟩ := ob hf
      refine q_callV (As := [.int 2]) (rest := []) (st1 := []) (c_X12_fails G e) B hw hz hc0 (k_X12_fails e) (by decide) (ci := 12) rfl rfl my_X12_fails mv_X12_fails tw_6_196 ⟨by simp only [rmO, rmA]; omega, by simp only [rmO, rmA]; omega⟩ ⟨Nat.zero_le _, Nat.zero_le _⟩ rfl hl.1 rfl rfl (Nat.le_of_ble_eq_true rfl) dX12_readIf_27 (fun H locs hw => ?_)
      exact w_X12_readIf_30 G B hz hc0 hr hlk H_X12_readAtom H_X12_readIf H_X12_readTerm H_X12_readSum H_X12_readUnit H_X12_readBoth H_X12_readTruth  h8 v0 v1 _ _ _ hw (lv_sub hl [0, 1] rfl) hf
  · have hf := (if_pos c3).symm.trans hf
    obtain rfl := so hf
    exact q_vret B hw hz hc0 hr hlk dX12_readIf_8
set_option maxHeartbeats 4000000 in
theorem w_X12_readTerm_5 {p : Program} {l : Launch} {e : Env} {s : State} {m : MethodId} {args : Array Value} {below : List Frame} {meth : Method} {c : Code} {s0 : State} {E : Ev} {z : Sh} {d : Nat} {g_X12_readAtom : Sh → Hp → Nat → Int32 → Option (Hp)} {g_X12_readIf : Sh → Hp → Nat → Int32 → Option (Hp)} {g_X12_readTerm : Sh → Hp → Nat → Int32 → Option (Hp)} {g_X12_readSum : Sh → Hp → Nat → Int32 → Option (Hp)} {g_X12_readUnit : Sh → Hp → Nat → Int32 → Option (Hp)} {g_X12_readBoth : Sh → Hp → Nat → Int32 → Option (Hp)} {g_X12_readTruth : Sh → Hp → Nat → Int32 → Option (Hp)} {n : Nat} {h' : Hp} (G : Gl s0 E) (B : Bd p s0 s E m c cX12_readTerm 2 RX12) (hz : s0.heap.size ≤ z.sz) (hc0 : s.heap.size + 0 = z.sz) (hr : meth.sig.returnType = none) (hlk : meth.locks = false) (H_X12_readAtom : ∀ {z : Sh} {h : Hp} {v0 : Nat} {v1 : Int32} {h' : Hp}, g_X12_readAtom z h v0 v1 = some h' → Ct l s0 E yX12_readAtom cX12_readAtom 2 none (8 + d) (151 + 60 * d) [.ref v0, .int v1] z h h' (none)) (H_X12_readIf : ∀ {z : Sh} {h : Hp} {v0 : Nat} {v1 : Int32} {h' : Hp}, g_X12_readIf z h v0 v1 = some h' → Ct l s0 E yX12_readIf cX12_readIf 2 none (8 + d) (151 + 60 * d) [.ref v0, .int v1] z h h' (none)) (H_X12_readTerm : ∀ {z : Sh} {h : Hp} {v0 : Nat} {v1 : Int32} {h' : Hp}, g_X12_readTerm z h v0 v1 = some h' → Ct l s0 E yX12_readTerm cX12_readTerm 2 none (8 + d) (151 + 60 * d) [.ref v0, .int v1] z h h' (none)) (H_X12_readSum : ∀ {z : Sh} {h : Hp} {v0 : Nat} {v1 : Int32} {h' : Hp}, g_X12_readSum z h v0 v1 = some h' → Ct l s0 E yX12_readSum cX12_readSum 3 none (8 + d) (151 + 60 * d) [.ref v0, .int v1] z h h' (none)) (H_X12_readUnit : ∀ {z : Sh} {h : Hp} {v0 : Nat} {v1 : Int32} {h' : Hp}, g_X12_readUnit z h v0 v1 = some h' → Ct l s0 E yX12_readUnit cX12_readUnit 3 none (8 + d) (151 + 60 * d) [.ref v0, .int v1] z h h' (none)) (H_X12_readBoth : ∀ {z : Sh} {h : Hp} {v0 : Nat} {v1 : Int32} {h' : Hp}, g_X12_readBoth z h v0 v1 = some h' → Ct l s0 E yX12_readBoth cX12_readBoth 2 none (8 + d) (151 + 60 * d) [.ref v0, .int v1] z h h' (none)) (H_X12_readTruth : ∀ {z : Sh} {h : Hp} {v0 : Nat} {v1 : Int32} {h' : Hp}, g_X12_readTruth z h v0 v1 = some h' → Ct l s0 E yX12_readTruth cX12_readTruth 2 none (8 + d) (151 + 60 * d) [.ref v0, .int v1] z h h' (none)) : ∀ (i : Nat), ∀ (h : Hp) (v0 : Nat) (v1 : Int32) (H : Heap) (locs : List Loc) (ls : Array Slot), Pw s0 s E z h H locs → lv_has ls 2 [(0, .ref v0), (1, .int v1)] → f_X12_readTerm_5 n g_X12_readAtom g_X12_readIf g_X12_readTerm g_X12_readSum g_X12_readUnit g_X12_readBoth g_X12_readTruth z i h v0 v1 = some h' → W p l e (rmO (8 + (d + 1)) (151 + 60 * (d + 1))) s m args below meth c H locs 0 0 (Zt below s0 E z h' (none) args s 0 0) (F0 m 5 ls []) := by
  have hx := B.1
  have hb := B.2.1
  intro i
  induction i with
  | zero =>
    intro h v0 v1 H locs ls hw hl hf
    have hf := (f_X12_readTerm_5.eq_1 ..).symm.trans hf
    cases hf
  | succ i ih =>
    intro h v0 v1 H locs ls hw hl hf
    have hf := (f_X12_readTerm_5.eq_2 ..).symm.trans hf
    refine lv_aload_n hx hb dX12_readTerm_5 rfl (lv_at hl 0 rfl) ?_
    refine lv_bipush (v := 34) hx hb dX12_readTerm_6 (by decide) ?_
    obtain ⟨⟨x1, h2⟩, e, hf⟩ := ob hf
    refine q_callV (As := [.int 34]) (rest := []) (st1 := [.int x1]) (c_X12_eats G e) B hw hz hc0 (k_X12_eats e) (by decide) (ci := 12) rfl rfl my_X12_eats mv_X12_eats tw_6_188 ⟨by simp only [rmO, rmA]; omega, by simp only [rmO, rmA]; omega⟩ ⟨Nat.zero_le _, Nat.zero_le _⟩ rfl hl.1 rfl rfl (Nat.le_of_ble_eq_true rfl) dX12_readTerm_8 (fun H locs hw => ?_)
    refine lv_if_eq (tgt := 29) hx hb dX12_readTerm_11 (by decide) (fun c3 => ?_) (fun c3 => ?_)
    · have hf := (if_pos c3).symm.trans hf
      obtain rfl := so hf
      exact q_vret B hw hz hc0 hr hlk dX12_readTerm_29
    · have hf := (if_neg c3).symm.trans hf
      refine lv_aload_n hx hb dX12_readTerm_14 rfl (lv_at hl 0 rfl) ?_
      refine lv_iload_n hx hb dX12_readTerm_15 rfl (lv_at hl 1 rfl) ?_
      obtain ⟨_, eK, hf⟩ := ob hf
      obtain ⟨h4, e, hf⟩ := ob hf
      refine q_callV (As := [.int v1]) (rest := []) (st1 := []) (H_X12_readAtom e) B hw hz hc0 ((if_some eK).1) (by decide) (ci := 12) rfl rfl my_X12_readAtom mv_X12_readAtom tw_6_232 ⟨by simp only [rmO, rmA]; omega, by simp only [rmO, rmA]; omega⟩ ⟨Nat.zero_le _, Nat.zero_le _⟩ rfl hl.1 rfl rfl (Nat.le_of_ble_eq_true rfl) dX12_readTerm_16 (fun H locs hw => ?_)
      refine lv_aload_n hx hb dX12_readTerm_19 rfl (lv_at hl 0 rfl) ?_
      refine lv_sipush (v := 3002) hx hb dX12_readTerm_20 (by decide) ?_
      obtain ⟨h5, e, hf⟩ := ob hf
      refine q_callV (As := [.int 3002]) (rest := []) (st1 := []) (c_X12_codes G e) B hw hz hc0 (k_X12_codes e) (by decide) (ci := 12) rfl rfl my_X12_codes mv_X12_codes tw_6_236 ⟨by simp only [rmO, rmA]; omega, by simp only [rmO, rmA]; omega⟩ ⟨Nat.zero_le _, Nat.zero_le _⟩ rfl hl.1 rfl rfl (Nat.le_of_ble_eq_true rfl) dX12_readTerm_23 (fun H locs hw => ?_)
      refine lv_goto (tgt := 5) hx hb dX12_readTerm_26 (by decide) ?_
      exact ih h5 v0 v1 _ _ _ hw (lv_sub hl [0, 1] rfl) hf
set_option maxHeartbeats 4000000 in
theorem co_X12_readTerm {l : Launch} {s0 : State} {E : Ev} (G : Gl s0 E) {n : Nat} {d : Nat} {g_X12_readAtom : Sh → Hp → Nat → Int32 → Option (Hp)} {g_X12_readIf : Sh → Hp → Nat → Int32 → Option (Hp)} {g_X12_readTerm : Sh → Hp → Nat → Int32 → Option (Hp)} {g_X12_readSum : Sh → Hp → Nat → Int32 → Option (Hp)} {g_X12_readUnit : Sh → Hp → Nat → Int32 → Option (Hp)} {g_X12_readBoth : Sh → Hp → Nat → Int32 → Option (Hp)} {g_X12_readTruth : Sh → Hp → Nat → Int32 → Option (Hp)} (H_X12_readAtom : ∀ {z : Sh} {h : Hp} {v0 : Nat} {v1 : Int32} {h' : Hp}, g_X12_readAtom z h v0 v1 = some h' → Ct l s0 E yX12_readAtom cX12_readAtom 2 none (8 + d) (151 + 60 * d) [.ref v0, .int v1] z h h' (none)) (H_X12_readIf : ∀ {z : Sh} {h : Hp} {v0 : Nat} {v1 : Int32} {h' : Hp}, g_X12_readIf z h v0 v1 = some h' → Ct l s0 E yX12_readIf cX12_readIf 2 none (8 + d) (151 + 60 * d) [.ref v0, .int v1] z h h' (none)) (H_X12_readTerm : ∀ {z : Sh} {h : Hp} {v0 : Nat} {v1 : Int32} {h' : Hp}, g_X12_readTerm z h v0 v1 = some h' → Ct l s0 E yX12_readTerm cX12_readTerm 2 none (8 + d) (151 + 60 * d) [.ref v0, .int v1] z h h' (none)) (H_X12_readSum : ∀ {z : Sh} {h : Hp} {v0 : Nat} {v1 : Int32} {h' : Hp}, g_X12_readSum z h v0 v1 = some h' → Ct l s0 E yX12_readSum cX12_readSum 3 none (8 + d) (151 + 60 * d) [.ref v0, .int v1] z h h' (none)) (H_X12_readUnit : ∀ {z : Sh} {h : Hp} {v0 : Nat} {v1 : Int32} {h' : Hp}, g_X12_readUnit z h v0 v1 = some h' → Ct l s0 E yX12_readUnit cX12_readUnit 3 none (8 + d) (151 + 60 * d) [.ref v0, .int v1] z h h' (none)) (H_X12_readBoth : ∀ {z : Sh} {h : Hp} {v0 : Nat} {v1 : Int32} {h' : Hp}, g_X12_readBoth z h v0 v1 = some h' → Ct l s0 E yX12_readBoth cX12_readBoth 2 none (8 + d) (151 + 60 * d) [.ref v0, .int v1] z h h' (none)) (H_X12_readTruth : ∀ {z : Sh} {h : Hp} {v0 : Nat} {v1 : Int32} {h' : Hp}, g_X12_readTruth z h v0 v1 = some h' → Ct l s0 E yX12_readTruth cX12_readTruth 2 none (8 + d) (151 + 60 * d) [.ref v0, .int v1] z h h' (none)) {z : Sh} {h : Hp} {v0 : Nat} {v1 : Int32} {h' : Hp} (hf : F_X12_readTerm n g_X12_readAtom g_X12_readIf g_X12_readTerm g_X12_readSum g_X12_readUnit g_X12_readBoth g_X12_readTruth z h v0 v1 = some h') : Ct l s0 E yX12_readTerm cX12_readTerm 2 none (8 + (d + 1)) (151 + 60 * (d + 1)) [.ref v0, .int v1] z h h' (none) := by
  refine Ct.of G (by decide) (Nat.le_of_ble_eq_true rfl) ?_
  intro p e s m below meth c ls B hw hz hc0 hr hlk hl
  have B : Bd p s0 s E m c cX12_readTerm 2 RX12 := B
  have hx := B.1
  have hb := B.2.1
  have hl : lv_has ls 2 [(0, .ref v0), (1, .int v1)] := hl
  unfold F_X12_readTerm at hf
  obtain ⟨_, hf⟩ := if_some hf
  refine lv_aload_n hx hb dX12_readTerm_0 rfl (lv_at hl 0 rfl) ?_
  refine lv_iload_n hx hb dX12_readTerm_1 rfl (lv_at hl 1 rfl) ?_
  obtain ⟨_, eK, hf⟩ := ob hf
  obtain ⟨h1, e, hf⟩ := ob hf
  refine q_callV (As := [.int v1]) (rest := []) (st1 := []) (H_X12_readAtom e) B hw hz hc0 ((if_some eK).1) (by decide) (ci := 12) rfl rfl my_X12_readAtom mv_X12_readAtom tw_6_232 ⟨by simp only [rmO, rmA]; omega, by simp only [rmO, rmA]; omega⟩ ⟨Nat.zero_le _, Nat.zero_le _⟩ rfl hl.1 rfl rfl (Nat.le_of_ble_eq_true rfl) dX12_readTerm_2 (fun H locs hw => ?_)
  exact w_X12_readTerm_5 G B hz hc0 hr hlk H_X12_readAtom H_X12_readIf H_X12_readTerm H_X12_readSum H_X12_readUnit H_X12_readBoth H_X12_readTruth  n h1 v0 v1 _ _ _ hw (lv_sub hl [0, 1] rfl) hf
set_option maxHeartbeats 4000000 in
theorem w_X12_readSum_41 {p : Program} {l : Launch} {e : Env} {s : State} {m : MethodId} {args : Array Value} {below : List Frame} {meth : Method} {c : Code} {s0 : State} {E : Ev} {z : Sh} {d : Nat} {g_X12_readAtom : Sh → Hp → Nat → Int32 → Option (Hp)} {g_X12_readIf : Sh → Hp → Nat → Int32 → Option (Hp)} {g_X12_readTerm : Sh → Hp → Nat → Int32 → Option (Hp)} {g_X12_readSum : Sh → Hp → Nat → Int32 → Option (Hp)} {g_X12_readUnit : Sh → Hp → Nat → Int32 → Option (Hp)} {g_X12_readBoth : Sh → Hp → Nat → Int32 → Option (Hp)} {g_X12_readTruth : Sh → Hp → Nat → Int32 → Option (Hp)} {n : Nat} {k5 : Hp → Nat → Int32 → Option (Hp)} {h' : Hp} (G : Gl s0 E) (B : Bd p s0 s E m c cX12_readSum 3 RX12) (hz : s0.heap.size ≤ z.sz) (hc0 : s.heap.size + 0 = z.sz) (hr : meth.sig.returnType = none) (hlk : meth.locks = false) (H_X12_readAtom : ∀ {z : Sh} {h : Hp} {v0 : Nat} {v1 : Int32} {h' : Hp}, g_X12_readAtom z h v0 v1 = some h' → Ct l s0 E yX12_readAtom cX12_readAtom 2 none (8 + d) (151 + 60 * d) [.ref v0, .int v1] z h h' (none)) (H_X12_readIf : ∀ {z : Sh} {h : Hp} {v0 : Nat} {v1 : Int32} {h' : Hp}, g_X12_readIf z h v0 v1 = some h' → Ct l s0 E yX12_readIf cX12_readIf 2 none (8 + d) (151 + 60 * d) [.ref v0, .int v1] z h h' (none)) (H_X12_readTerm : ∀ {z : Sh} {h : Hp} {v0 : Nat} {v1 : Int32} {h' : Hp}, g_X12_readTerm z h v0 v1 = some h' → Ct l s0 E yX12_readTerm cX12_readTerm 2 none (8 + d) (151 + 60 * d) [.ref v0, .int v1] z h h' (none)) (H_X12_readSum : ∀ {z : Sh} {h : Hp} {v0 : Nat} {v1 : Int32} {h' : Hp}, g_X12_readSum z h v0 v1 = some h' → Ct l s0 E yX12_readSum cX12_readSum 3 none (8 + d) (151 + 60 * d) [.ref v0, .int v1] z h h' (none)) (H_X12_readUnit : ∀ {z : Sh} {h : Hp} {v0 : Nat} {v1 : Int32} {h' : Hp}, g_X12_readUnit z h v0 v1 = some h' → Ct l s0 E yX12_readUnit cX12_readUnit 3 none (8 + d) (151 + 60 * d) [.ref v0, .int v1] z h h' (none)) (H_X12_readBoth : ∀ {z : Sh} {h : Hp} {v0 : Nat} {v1 : Int32} {h' : Hp}, g_X12_readBoth z h v0 v1 = some h' → Ct l s0 E yX12_readBoth cX12_readBoth 2 none (8 + d) (151 + 60 * d) [.ref v0, .int v1] z h h' (none)) (H_X12_readTruth : ∀ {z : Sh} {h : Hp} {v0 : Nat} {v1 : Int32} {h' : Hp}, g_X12_readTruth z h v0 v1 = some h' → Ct l s0 E yX12_readTruth cX12_readTruth 2 none (8 + d) (151 + 60 * d) [.ref v0, .int v1] z h h' (none)) (hk5 : ∀ (h : Hp) (v0 : Nat) (v1 : Int32) (H : Heap) (locs : List Loc) (ls : Array Slot), Pw s0 s E z h H locs → lv_has ls 3 [(0, .ref v0), (1, .int v1)] → k5 h v0 v1 = some h' → W p l e (rmO (8 + (d + 1)) (151 + 60 * (d + 1))) s m args below meth c H locs 0 0 (Zt below s0 E z h' (none) args s 0 0) (F0 m 5 ls [])) : ∀ (h : Hp) (v0 : Nat) (v1 : Int32) (u0 : Int32) (H : Heap) (locs : List Loc) (ls : Array Slot), Pw s0 s E z h H locs → lv_has ls 3 [(0, .ref v0), (1, .int v1)] → f_X12_readSum_41 n g_X12_readAtom g_X12_readIf g_X12_readTerm g_X12_readSum g_X12_readUnit g_X12_readBoth g_X12_readTruth z k5 h v0 v1 u0 = some h' → W p l e (rmO (8 + (d + 1)) (151 + 60 * (d + 1))) s m args below meth c H locs 0 0 (Zt below s0 E z h' (none) args s 0 0) (F0 m 41 ls [.int u0]) := by
  have hx := B.1
  have hb := B.2.1
  intro h v0 v1 u0 H locs ls hw hl hf
  unfold f_X12_readSum_41 at hf
  refine lv_istore_n (lv' := [(2, .int u0), (0, .ref v0), (1, .int v1)]) hx hb dX12_readSum_41 rfl hl (by decide) rfl (fun ls hl => ?_)
  refine lv_aload_n hx hb dX12_readSum_42 rfl (lv_at hl 1 rfl) ?_
  obtain ⟨h1, e, hf⟩ := ob hf
  refine q_callV (As := []) (rest := []) (st1 := []) (c_X12_next G e) B hw hz hc0 (k_X12_next e) (by decide) (ci := 12) rfl rfl my_X12_next mv_X12_next tw_6_166 ⟨by simp only [rmO, rmA]; omega, by simp only [rmO, rmA]; omega⟩ ⟨Nat.zero_le _, Nat.zero_le _⟩ rfl hl.1 rfl rfl (Nat.le_of_ble_eq_true rfl) dX12_readSum_43 (fun H locs hw => ?_)
  refine lv_aload_n hx hb dX12_readSum_46 rfl (lv_at hl 1 rfl) ?_
  refine lv_iload_n hx hb dX12_readSum_47 rfl (lv_at hl 2 rfl) ?_
  obtain ⟨_, eK, hf⟩ := ob hf
  obtain ⟨h2, e, hf⟩ := ob hf
  refine q_callV (As := [.int v1]) (rest := []) (st1 := []) (H_X12_readTerm e) B hw hz hc0 ((if_some eK).1) (by decide) (ci := 12) rfl rfl my_X12_readTerm mv_X12_readTerm tw_6_228 ⟨by simp only [rmO, rmA]; omega, by simp only [rmO, rmA]; omega⟩ ⟨Nat.zero_le _, Nat.zero_le _⟩ rfl hl.1 rfl rfl (Nat.le_of_ble_eq_true rfl) dX12_readSum_48 (fun H locs hw => ?_)
  refine lv_aload_n hx hb dX12_readSum_51 rfl (lv_at hl 1 rfl) ?_
  refine lv_iload_n hx hb dX12_readSum_52 rfl (lv_at hl 0 rfl) ?_
  obtain ⟨h3, e, hf⟩ := ob hf
  refine q_callV (As := [.int u0]) (rest := []) (st1 := []) (c_X12_codes G e) B hw hz hc0 (k_X12_codes e) (by decide) (ci := 12) rfl rfl my_X12_codes mv_X12_codes tw_6_236 ⟨by simp only [rmO, rmA]; omega, by simp only [rmO, rmA]; omega⟩ ⟨Nat.zero_le _, Nat.zero_le _⟩ rfl hl.1 rfl rfl (Nat.le_of_ble_eq_true rfl) dX12_readSum_53 (fun H locs hw => ?_)
  refine lv_goto (tgt := 5) hx hb dX12_readSum_56 (by decide) ?_
  exact hk5 h3 v0 v1 _ _ _ hw (lv_sub hl [1, 2] rfl) hf
set_option maxHeartbeats 4000000 in
theorem w_X12_readSum_23 {p : Program} {l : Launch} {e : Env} {s : State} {m : MethodId} {args : Array Value} {below : List Frame} {meth : Method} {c : Code} {s0 : State} {E : Ev} {z : Sh} {d : Nat} {g_X12_readAtom : Sh → Hp → Nat → Int32 → Option (Hp)} {g_X12_readIf : Sh → Hp → Nat → Int32 → Option (Hp)} {g_X12_readTerm : Sh → Hp → Nat → Int32 → Option (Hp)} {g_X12_readSum : Sh → Hp → Nat → Int32 → Option (Hp)} {g_X12_readUnit : Sh → Hp → Nat → Int32 → Option (Hp)} {g_X12_readBoth : Sh → Hp → Nat → Int32 → Option (Hp)} {g_X12_readTruth : Sh → Hp → Nat → Int32 → Option (Hp)} {n : Nat} {k5 : Hp → Nat → Int32 → Option (Hp)} {h' : Hp} (G : Gl s0 E) (B : Bd p s0 s E m c cX12_readSum 3 RX12) (hz : s0.heap.size ≤ z.sz) (hc0 : s.heap.size + 0 = z.sz) (hr : meth.sig.returnType = none) (hlk : meth.locks = false) (H_X12_readAtom : ∀ {z : Sh} {h : Hp} {v0 : Nat} {v1 : Int32} {h' : Hp}, g_X12_readAtom z h v0 v1 = some h' → Ct l s0 E yX12_readAtom cX12_readAtom 2 none (8 + d) (151 + 60 * d) [.ref v0, .int v1] z h h' (none)) (H_X12_readIf : ∀ {z : Sh} {h : Hp} {v0 : Nat} {v1 : Int32} {h' : Hp}, g_X12_readIf z h v0 v1 = some h' → Ct l s0 E yX12_readIf cX12_readIf 2 none (8 + d) (151 + 60 * d) [.ref v0, .int v1] z h h' (none)) (H_X12_readTerm : ∀ {z : Sh} {h : Hp} {v0 : Nat} {v1 : Int32} {h' : Hp}, g_X12_readTerm z h v0 v1 = some h' → Ct l s0 E yX12_readTerm cX12_readTerm 2 none (8 + d) (151 + 60 * d) [.ref v0, .int v1] z h h' (none)) (H_X12_readSum : ∀ {z : Sh} {h : Hp} {v0 : Nat} {v1 : Int32} {h' : Hp}, g_X12_readSum z h v0 v1 = some h' → Ct l s0 E yX12_readSum cX12_readSum 3 none (8 + d) (151 + 60 * d) [.ref v0, .int v1] z h h' (none)) (H_X12_readUnit : ∀ {z : Sh} {h : Hp} {v0 : Nat} {v1 : Int32} {h' : Hp}, g_X12_readUnit z h v0 v1 = some h' → Ct l s0 E yX12_readUnit cX12_readUnit 3 none (8 + d) (151 + 60 * d) [.ref v0, .int v1] z h h' (none)) (H_X12_readBoth : ∀ {z : Sh} {h : Hp} {v0 : Nat} {v1 : Int32} {h' : Hp}, g_X12_readBoth z h v0 v1 = some h' → Ct l s0 E yX12_readBoth cX12_readBoth 2 none (8 + d) (151 + 60 * d) [.ref v0, .int v1] z h h' (none)) (H_X12_readTruth : ∀ {z : Sh} {h : Hp} {v0 : Nat} {v1 : Int32} {h' : Hp}, g_X12_readTruth z h v0 v1 = some h' → Ct l s0 E yX12_readTruth cX12_readTruth 2 none (8 + d) (151 + 60 * d) [.ref v0, .int v1] z h h' (none)) (hk5 : ∀ (h : Hp) (v0 : Nat) (v1 : Int32) (H : Heap) (locs : List Loc) (ls : Array Slot), Pw s0 s E z h H locs → lv_has ls 3 [(0, .ref v0), (1, .int v1)] → k5 h v0 v1 = some h' → W p l e (rmO (8 + (d + 1)) (151 + 60 * (d + 1))) s m args below meth c H locs 0 0 (Zt below s0 E z h' (none) args s 0 0) (F0 m 5 ls [])) : ∀ (h : Hp) (v0 : Nat) (v1 : Int32) (H : Heap) (locs : List Loc) (ls : Array Slot), Pw s0 s E z h H locs → lv_has ls 3 [(0, .ref v0), (1, .int v1)] → f_X12_readSum_23 n g_X12_readAtom g_X12_readIf g_X12_readTerm g_X12_readSum g_X12_readUnit g_X12_readBoth g_X12_readTruth z k5 h v0 v1 = some h' → W p l e (rmO (8 + (d + 1)) (151 + 60 * (d + 1))) s m args below meth c H locs 0 0 (Zt below s0 E z h' (none) args s 0 0) (F0 m 23 ls []) := by
  have hx := B.1
  have hb := B.2.1
  intro h v0 v1 H locs ls hw hl hf
  unfold f_X12_readSum_23 at hf
  refine lv_aload_n hx hb dX12_readSum_23 rfl (lv_at hl 0 rfl) ?_
  obtain ⟨x1, e, hf⟩ := ob hf
  refine q_getI e B hw fd_12_9.1 fd_12_9.2.1 fd_12_9.2.2.1 fd_12_9.2.2.2.1 fd_12_9.2.2.2.2 rfl tw_6_52 dX12_readSum_24 ?_
  refine lv_bipush (v := 32) hx hb dX12_readSum_27 (by decide) ?_
  refine lv_icmp_ne (tgt := 38) hx hb dX12_readSum_29 (by decide) (fun c2 => ?_) (fun c2 => ?_)
  · have hf := (if_neg c2).symm.trans hf
    refine lv_sipush (v := 3001) hx hb dX12_readSum_38 (by decide) ?_
    exact w_X12_readSum_41 G B hz hc0 hr hlk H_X12_readAtom H_X12_readIf H_X12_readTerm H_X12_readSum H_X12_readUnit H_X12_readBoth H_X12_readTruth hk5 h v0 v1 3001 _ _ _ hw (lv_sub hl [0, 1] rfl) hf
  · have hf := (if_pos c2).symm.trans hf
    refine lv_sipush (v := 3000) hx hb dX12_readSum_32 (by decide) ?_
    refine lv_goto (tgt := 41) hx hb dX12_readSum_35 (by decide) ?_
    exact w_X12_readSum_41 G B hz hc0 hr hlk H_X12_readAtom H_X12_readIf H_X12_readTerm H_X12_readSum H_X12_readUnit H_X12_readBoth H_X12_readTruth hk5 h v0 v1 3000 _ _ _ hw (lv_sub hl [0, 1] rfl) hf
set_option maxHeartbeats 4000000 in
theorem w_X12_readSum_5 {p : Program} {l : Launch} {e : Env} {s : State} {m : MethodId} {args : Array Value} {below : List Frame} {meth : Method} {c : Code} {s0 : State} {E : Ev} {z : Sh} {d : Nat} {g_X12_readAtom : Sh → Hp → Nat → Int32 → Option (Hp)} {g_X12_readIf : Sh → Hp → Nat → Int32 → Option (Hp)} {g_X12_readTerm : Sh → Hp → Nat → Int32 → Option (Hp)} {g_X12_readSum : Sh → Hp → Nat → Int32 → Option (Hp)} {g_X12_readUnit : Sh → Hp → Nat → Int32 → Option (Hp)} {g_X12_readBoth : Sh → Hp → Nat → Int32 → Option (Hp)} {g_X12_readTruth : Sh → Hp → Nat → Int32 → Option (Hp)} {n : Nat} {h' : Hp} (G : Gl s0 E) (B : Bd p s0 s E m c cX12_readSum 3 RX12) (hz : s0.heap.size ≤ z.sz) (hc0 : s.heap.size + 0 = z.sz) (hr : meth.sig.returnType = none) (hlk : meth.locks = false) (H_X12_readAtom : ∀ {z : Sh} {h : Hp} {v0 : Nat} {v1 : Int32} {h' : Hp}, g_X12_readAtom z h v0 v1 = some h' → Ct l s0 E yX12_readAtom cX12_readAtom 2 none (8 + d) (151 + 60 * d) [.ref v0, .int v1] z h h' (none)) (H_X12_readIf : ∀ {z : Sh} {h : Hp} {v0 : Nat} {v1 : Int32} {h' : Hp}, g_X12_readIf z h v0 v1 = some h' → Ct l s0 E yX12_readIf cX12_readIf 2 none (8 + d) (151 + 60 * d) [.ref v0, .int v1] z h h' (none)) (H_X12_readTerm : ∀ {z : Sh} {h : Hp} {v0 : Nat} {v1 : Int32} {h' : Hp}, g_X12_readTerm z h v0 v1 = some h' → Ct l s0 E yX12_readTerm cX12_readTerm 2 none (8 + d) (151 + 60 * d) [.ref v0, .int v1] z h h' (none)) (H_X12_readSum : ∀ {z : Sh} {h : Hp} {v0 : Nat} {v1 : Int32} {h' : Hp}, g_X12_readSum z h v0 v1 = some h' → Ct l s0 E yX12_readSum cX12_readSum 3 none (8 + d) (151 + 60 * d) [.ref v0, .int v1] z h h' (none)) (H_X12_readUnit : ∀ {z : Sh} {h : Hp} {v0 : Nat} {v1 : Int32} {h' : Hp}, g_X12_readUnit z h v0 v1 = some h' → Ct l s0 E yX12_readUnit cX12_readUnit 3 none (8 + d) (151 + 60 * d) [.ref v0, .int v1] z h h' (none)) (H_X12_readBoth : ∀ {z : Sh} {h : Hp} {v0 : Nat} {v1 : Int32} {h' : Hp}, g_X12_readBoth z h v0 v1 = some h' → Ct l s0 E yX12_readBoth cX12_readBoth 2 none (8 + d) (151 + 60 * d) [.ref v0, .int v1] z h h' (none)) (H_X12_readTruth : ∀ {z : Sh} {h : Hp} {v0 : Nat} {v1 : Int32} {h' : Hp}, g_X12_readTruth z h v0 v1 = some h' → Ct l s0 E yX12_readTruth cX12_readTruth 2 none (8 + d) (151 + 60 * d) [.ref v0, .int v1] z h h' (none)) : ∀ (i : Nat), ∀ (h : Hp) (v0 : Nat) (v1 : Int32) (H : Heap) (locs : List Loc) (ls : Array Slot), Pw s0 s E z h H locs → lv_has ls 3 [(0, .ref v0), (1, .int v1)] → f_X12_readSum_5 n g_X12_readAtom g_X12_readIf g_X12_readTerm g_X12_readSum g_X12_readUnit g_X12_readBoth g_X12_readTruth z i h v0 v1 = some h' → W p l e (rmO (8 + (d + 1)) (151 + 60 * (d + 1))) s m args below meth c H locs 0 0 (Zt below s0 E z h' (none) args s 0 0) (F0 m 5 ls []) := by
  have hx := B.1
  have hb := B.2.1
  intro i
  induction i with
  | zero =>
    intro h v0 v1 H locs ls hw hl hf
    have hf := (f_X12_readSum_5.eq_1 ..).symm.trans hf
    cases hf
  | succ i ih =>
    intro h v0 v1 H locs ls hw hl hf
    have hf := (f_X12_readSum_5.eq_2 ..).symm.trans hf
    refine lv_aload_n hx hb dX12_readSum_5 rfl (lv_at hl 0 rfl) ?_
    refine lv_bipush (v := 32) hx hb dX12_readSum_6 (by decide) ?_
    obtain ⟨x1, e, hf⟩ := ob hf
    refine q_callV (As := [.int 32]) (rest := []) (st1 := [.int x1]) (c_X12_is G e) B hw hz hc0 (k_X12_is e) (by decide) (ci := 12) rfl rfl my_X12_is mv_X12_is tw_6_192 ⟨by simp only [rmO, rmA]; omega, by simp only [rmO, rmA]; omega⟩ ⟨Nat.zero_le _, Nat.zero_le _⟩ rfl hl.1 rfl rfl (Nat.le_of_ble_eq_true rfl) dX12_readSum_8 (fun H locs hw => ?_)
    refine lv_if_ne (tgt := 23) hx hb dX12_readSum_11 (by decide) (fun c2 => ?_) (fun c2 => ?_)
    · have hf := (if_neg c2).symm.trans hf
      exact w_X12_readSum_23 G B hz hc0 hr hlk H_X12_readAtom H_X12_readIf H_X12_readTerm H_X12_readSum H_X12_readUnit H_X12_readBoth H_X12_readTruth ih h v0 v1 _ _ _ hw (lv_sub hl [0, 1] rfl) hf
    · have hf := (if_pos c2).symm.trans hf
      refine lv_aload_n hx hb dX12_readSum_14 rfl (lv_at hl 0 rfl) ?_
      refine lv_bipush (v := 33) hx hb dX12_readSum_15 (by decide) ?_
      obtain ⟨x3, e, hf⟩ := ob hf
      refine q_callV (As := [.int 33]) (rest := []) (st1 := [.int x3]) (c_X12_is G e) B hw hz hc0 (k_X12_is e) (by decide) (ci := 12) rfl rfl my_X12_is mv_X12_is tw_6_192 ⟨by simp only [rmO, rmA]; omega, by simp only [rmO, rmA]; omega⟩ ⟨Nat.zero_le _, Nat.zero_le _⟩ rfl hl.1 rfl rfl (Nat.le_of_ble_eq_true rfl) dX12_readSum_17 (fun H locs hw => ?_)
      refine lv_if_eq (tgt := 59) hx hb dX12_readSum_20 (by decide) (fun c4 => ?_) (fun c4 => ?_)
      · have hf := (if_pos c4).symm.trans hf
        obtain rfl := so hf
        exact q_vret B hw hz hc0 hr hlk dX12_readSum_59
      · have hf := (if_neg c4).symm.trans hf
        exact w_X12_readSum_23 G B hz hc0 hr hlk H_X12_readAtom H_X12_readIf H_X12_readTerm H_X12_readSum H_X12_readUnit H_X12_readBoth H_X12_readTruth ih h v0 v1 _ _ _ hw (lv_sub hl [0, 1] rfl) hf
set_option maxHeartbeats 4000000 in
theorem co_X12_readSum {l : Launch} {s0 : State} {E : Ev} (G : Gl s0 E) {n : Nat} {d : Nat} {g_X12_readAtom : Sh → Hp → Nat → Int32 → Option (Hp)} {g_X12_readIf : Sh → Hp → Nat → Int32 → Option (Hp)} {g_X12_readTerm : Sh → Hp → Nat → Int32 → Option (Hp)} {g_X12_readSum : Sh → Hp → Nat → Int32 → Option (Hp)} {g_X12_readUnit : Sh → Hp → Nat → Int32 → Option (Hp)} {g_X12_readBoth : Sh → Hp → Nat → Int32 → Option (Hp)} {g_X12_readTruth : Sh → Hp → Nat → Int32 → Option (Hp)} (H_X12_readAtom : ∀ {z : Sh} {h : Hp} {v0 : Nat} {v1 : Int32} {h' : Hp}, g_X12_readAtom z h v0 v1 = some h' → Ct l s0 E yX12_readAtom cX12_readAtom 2 none (8 + d) (151 + 60 * d) [.ref v0, .int v1] z h h' (none)) (H_X12_readIf : ∀ {z : Sh} {h : Hp} {v0 : Nat} {v1 : Int32} {h' : Hp}, g_X12_readIf z h v0 v1 = some h' → Ct l s0 E yX12_readIf cX12_readIf 2 none (8 + d) (151 + 60 * d) [.ref v0, .int v1] z h h' (none)) (H_X12_readTerm : ∀ {z : Sh} {h : Hp} {v0 : Nat} {v1 : Int32} {h' : Hp}, g_X12_readTerm z h v0 v1 = some h' → Ct l s0 E yX12_readTerm cX12_readTerm 2 none (8 + d) (151 + 60 * d) [.ref v0, .int v1] z h h' (none)) (H_X12_readSum : ∀ {z : Sh} {h : Hp} {v0 : Nat} {v1 : Int32} {h' : Hp}, g_X12_readSum z h v0 v1 = some h' → Ct l s0 E yX12_readSum cX12_readSum 3 none (8 + d) (151 + 60 * d) [.ref v0, .int v1] z h h' (none)) (H_X12_readUnit : ∀ {z : Sh} {h : Hp} {v0 : Nat} {v1 : Int32} {h' : Hp}, g_X12_readUnit z h v0 v1 = some h' → Ct l s0 E yX12_readUnit cX12_readUnit 3 none (8 + d) (151 + 60 * d) [.ref v0, .int v1] z h h' (none)) (H_X12_readBoth : ∀ {z : Sh} {h : Hp} {v0 : Nat} {v1 : Int32} {h' : Hp}, g_X12_readBoth z h v0 v1 = some h' → Ct l s0 E yX12_readBoth cX12_readBoth 2 none (8 + d) (151 + 60 * d) [.ref v0, .int v1] z h h' (none)) (H_X12_readTruth : ∀ {z : Sh} {h : Hp} {v0 : Nat} {v1 : Int32} {h' : Hp}, g_X12_readTruth z h v0 v1 = some h' → Ct l s0 E yX12_readTruth cX12_readTruth 2 none (8 + d) (151 + 60 * d) [.ref v0, .int v1] z h h' (none)) {z : Sh} {h : Hp} {v0 : Nat} {v1 : Int32} {h' : Hp} (hf : F_X12_readSum n g_X12_readAtom g_X12_readIf g_X12_readTerm g_X12_readSum g_X12_readUnit g_X12_readBoth g_X12_readTruth z h v0 v1 = some h') : Ct l s0 E yX12_readSum cX12_readSum 3 none (8 + (d + 1)) (151 + 60 * (d + 1)) [.ref v0, .int v1] z h h' (none) := by
  refine Ct.of G (by decide) (Nat.le_of_ble_eq_true rfl) ?_
  intro p e s m below meth c ls B hw hz hc0 hr hlk hl
  have B : Bd p s0 s E m c cX12_readSum 3 RX12 := B
  have hx := B.1
  have hb := B.2.1
  have hl : lv_has ls 3 [(0, .ref v0), (1, .int v1)] := hl
  unfold F_X12_readSum at hf
  obtain ⟨_, hf⟩ := if_some hf
  refine lv_aload_n hx hb dX12_readSum_0 rfl (lv_at hl 0 rfl) ?_
  refine lv_iload_n hx hb dX12_readSum_1 rfl (lv_at hl 1 rfl) ?_
  obtain ⟨_, eK, hf⟩ := ob hf
  obtain ⟨h1, e, hf⟩ := ob hf
  refine q_callV (As := [.int v1]) (rest := []) (st1 := []) (H_X12_readTerm e) B hw hz hc0 ((if_some eK).1) (by decide) (ci := 12) rfl rfl my_X12_readTerm mv_X12_readTerm tw_6_228 ⟨by simp only [rmO, rmA]; omega, by simp only [rmO, rmA]; omega⟩ ⟨Nat.zero_le _, Nat.zero_le _⟩ rfl hl.1 rfl rfl (Nat.le_of_ble_eq_true rfl) dX12_readSum_2 (fun H locs hw => ?_)
  exact w_X12_readSum_5 G B hz hc0 hr hlk H_X12_readAtom H_X12_readIf H_X12_readTerm H_X12_readSum H_X12_readUnit H_X12_readBoth H_X12_readTruth  n h1 v0 v1 _ _ _ hw (lv_sub hl [0, 1] rfl) hf
set_option maxHeartbeats 4000000 in
theorem w_X12_readUnit_151 {p : Program} {l : Launch} {e : Env} {s : State} {m : MethodId} {args : Array Value} {below : List Frame} {meth : Method} {c : Code} {s0 : State} {E : Ev} {z : Sh} {d : Nat} {g_X12_readAtom : Sh → Hp → Nat → Int32 → Option (Hp)} {g_X12_readIf : Sh → Hp → Nat → Int32 → Option (Hp)} {g_X12_readTerm : Sh → Hp → Nat → Int32 → Option (Hp)} {g_X12_readSum : Sh → Hp → Nat → Int32 → Option (Hp)} {g_X12_readUnit : Sh → Hp → Nat → Int32 → Option (Hp)} {g_X12_readBoth : Sh → Hp → Nat → Int32 → Option (Hp)} {g_X12_readTruth : Sh → Hp → Nat → Int32 → Option (Hp)} {n : Nat} {h' : Hp} (G : Gl s0 E) (B : Bd p s0 s E m c cX12_readUnit 3 RX12) (hz : s0.heap.size ≤ z.sz) (hc0 : s.heap.size + 0 = z.sz) (hr : meth.sig.returnType = none) (hlk : meth.locks = false) (H_X12_readAtom : ∀ {z : Sh} {h : Hp} {v0 : Nat} {v1 : Int32} {h' : Hp}, g_X12_readAtom z h v0 v1 = some h' → Ct l s0 E yX12_readAtom cX12_readAtom 2 none (8 + d) (151 + 60 * d) [.ref v0, .int v1] z h h' (none)) (H_X12_readIf : ∀ {z : Sh} {h : Hp} {v0 : Nat} {v1 : Int32} {h' : Hp}, g_X12_readIf z h v0 v1 = some h' → Ct l s0 E yX12_readIf cX12_readIf 2 none (8 + d) (151 + 60 * d) [.ref v0, .int v1] z h h' (none)) (H_X12_readTerm : ∀ {z : Sh} {h : Hp} {v0 : Nat} {v1 : Int32} {h' : Hp}, g_X12_readTerm z h v0 v1 = some h' → Ct l s0 E yX12_readTerm cX12_readTerm 2 none (8 + d) (151 + 60 * d) [.ref v0, .int v1] z h h' (none)) (H_X12_readSum : ∀ {z : Sh} {h : Hp} {v0 : Nat} {v1 : Int32} {h' : Hp}, g_X12_readSum z h v0 v1 = some h' → Ct l s0 E yX12_readSum cX12_readSum 3 none (8 + d) (151 + 60 * d) [.ref v0, .int v1] z h h' (none)) (H_X12_readUnit : ∀ {z : Sh} {h : Hp} {v0 : Nat} {v1 : Int32} {h' : Hp}, g_X12_readUnit z h v0 v1 = some h' → Ct l s0 E yX12_readUnit cX12_readUnit 3 none (8 + d) (151 + 60 * d) [.ref v0, .int v1] z h h' (none)) (H_X12_readBoth : ∀ {z : Sh} {h : Hp} {v0 : Nat} {v1 : Int32} {h' : Hp}, g_X12_readBoth z h v0 v1 = some h' → Ct l s0 E yX12_readBoth cX12_readBoth 2 none (8 + d) (151 + 60 * d) [.ref v0, .int v1] z h h' (none)) (H_X12_readTruth : ∀ {z : Sh} {h : Hp} {v0 : Nat} {v1 : Int32} {h' : Hp}, g_X12_readTruth z h v0 v1 = some h' → Ct l s0 E yX12_readTruth cX12_readTruth 2 none (8 + d) (151 + 60 * d) [.ref v0, .int v1] z h h' (none)) : ∀ (h : Hp) (v0 : Nat) (v1 : Int32) (v2 : Int32) (H : Heap) (locs : List Loc) (ls : Array Slot), Pw s0 s E z h H locs → lv_has ls 3 [(0, .ref v0), (1, .int v1), (2, .int v2)] → f_X12_readUnit_151 n g_X12_readAtom g_X12_readIf g_X12_readTerm g_X12_readSum g_X12_readUnit g_X12_readBoth g_X12_readTruth z h v0 v1 v2 = some h' → W p l e (rmO (8 + (d + 1)) (151 + 60 * (d + 1))) s m args below meth c H locs 0 0 (Zt below s0 E z h' (none) args s 0 0) (F0 m 151 ls []) := by
  have hx := B.1
  have hb := B.2.1
  intro h v0 v1 v2 H locs ls hw hl hf
  unfold f_X12_readUnit_151 at hf
  refine lv_aload_n hx hb dX12_readUnit_151 rfl (lv_at hl 0 rfl) ?_
  refine lv_iload_n hx hb dX12_readUnit_152 rfl (lv_at hl 1 rfl) ?_
  obtain ⟨_, eK, hf⟩ := ob hf
  obtain ⟨h1, e, hf⟩ := ob hf
  refine q_callV (As := [.int v1]) (rest := []) (st1 := []) (H_X12_readSum e) B hw hz hc0 ((if_some eK).1) (by decide) (ci := 12) rfl rfl my_X12_readSum mv_X12_readSum tw_6_224 ⟨by simp only [rmO, rmA]; omega, by simp only [rmO, rmA]; omega⟩ ⟨Nat.zero_le _, Nat.zero_le _⟩ rfl hl.1 rfl rfl (Nat.le_of_ble_eq_true rfl) dX12_readUnit_153 (fun H locs hw => ?_)
  refine lv_aload_n hx hb dX12_readUnit_156 rfl (lv_at hl 0 rfl) ?_
  refine lv_iload_n hx hb dX12_readUnit_157 rfl (lv_at hl 2 rfl) ?_
  obtain ⟨h2, e, hf⟩ := ob hf
  refine q_callV (As := [.int v2]) (rest := []) (st1 := []) (c_X12_codes G e) B hw hz hc0 (k_X12_codes e) (by decide) (ci := 12) rfl rfl my_X12_codes mv_X12_codes tw_6_236 ⟨by simp only [rmO, rmA]; omega, by simp only [rmO, rmA]; omega⟩ ⟨Nat.zero_le _, Nat.zero_le _⟩ rfl hl.1 rfl rfl (Nat.le_of_ble_eq_true rfl) dX12_readUnit_158 (fun H locs hw => ?_)
  obtain rfl := so hf
  exact q_vret B hw hz hc0 hr hlk dX12_readUnit_161
set_option maxHeartbeats 4000000 in
theorem w_X12_readUnit_139 {p : Program} {l : Launch} {e : Env} {s : State} {m : MethodId} {args : Array Value} {below : List Frame} {meth : Method} {c : Code} {s0 : State} {E : Ev} {z : Sh} {d : Nat} {g_X12_readAtom : Sh → Hp → Nat → Int32 → Option (Hp)} {g_X12_readIf : Sh → Hp → Nat → Int32 → Option (Hp)} {g_X12_readTerm : Sh → Hp → Nat → Int32 → Option (Hp)} {g_X12_readSum : Sh → Hp → Nat → Int32 → Option (Hp)} {g_X12_readUnit : Sh → Hp → Nat → Int32 → Option (Hp)} {g_X12_readBoth : Sh → Hp → Nat → Int32 → Option (Hp)} {g_X12_readTruth : Sh → Hp → Nat → Int32 → Option (Hp)} {n : Nat} {h' : Hp} (G : Gl s0 E) (B : Bd p s0 s E m c cX12_readUnit 3 RX12) (hz : s0.heap.size ≤ z.sz) (hc0 : s.heap.size + 0 = z.sz) (hr : meth.sig.returnType = none) (hlk : meth.locks = false) (H_X12_readAtom : ∀ {z : Sh} {h : Hp} {v0 : Nat} {v1 : Int32} {h' : Hp}, g_X12_readAtom z h v0 v1 = some h' → Ct l s0 E yX12_readAtom cX12_readAtom 2 none (8 + d) (151 + 60 * d) [.ref v0, .int v1] z h h' (none)) (H_X12_readIf : ∀ {z : Sh} {h : Hp} {v0 : Nat} {v1 : Int32} {h' : Hp}, g_X12_readIf z h v0 v1 = some h' → Ct l s0 E yX12_readIf cX12_readIf 2 none (8 + d) (151 + 60 * d) [.ref v0, .int v1] z h h' (none)) (H_X12_readTerm : ∀ {z : Sh} {h : Hp} {v0 : Nat} {v1 : Int32} {h' : Hp}, g_X12_readTerm z h v0 v1 = some h' → Ct l s0 E yX12_readTerm cX12_readTerm 2 none (8 + d) (151 + 60 * d) [.ref v0, .int v1] z h h' (none)) (H_X12_readSum : ∀ {z : Sh} {h : Hp} {v0 : Nat} {v1 : Int32} {h' : Hp}, g_X12_readSum z h v0 v1 = some h' → Ct l s0 E yX12_readSum cX12_readSum 3 none (8 + d) (151 + 60 * d) [.ref v0, .int v1] z h h' (none)) (H_X12_readUnit : ∀ {z : Sh} {h : Hp} {v0 : Nat} {v1 : Int32} {h' : Hp}, g_X12_readUnit z h v0 v1 = some h' → Ct l s0 E yX12_readUnit cX12_readUnit 3 none (8 + d) (151 + 60 * d) [.ref v0, .int v1] z h h' (none)) (H_X12_readBoth : ∀ {z : Sh} {h : Hp} {v0 : Nat} {v1 : Int32} {h' : Hp}, g_X12_readBoth z h v0 v1 = some h' → Ct l s0 E yX12_readBoth cX12_readBoth 2 none (8 + d) (151 + 60 * d) [.ref v0, .int v1] z h h' (none)) (H_X12_readTruth : ∀ {z : Sh} {h : Hp} {v0 : Nat} {v1 : Int32} {h' : Hp}, g_X12_readTruth z h v0 v1 = some h' → Ct l s0 E yX12_readTruth cX12_readTruth 2 none (8 + d) (151 + 60 * d) [.ref v0, .int v1] z h h' (none)) : ∀ (h : Hp) (v0 : Nat) (v1 : Int32) (v2 : Int32) (H : Heap) (locs : List Loc) (ls : Array Slot), Pw s0 s E z h H locs → lv_has ls 3 [(0, .ref v0), (1, .int v1), (2, .int v2)] → f_X12_readUnit_139 n g_X12_readAtom g_X12_readIf g_X12_readTerm g_X12_readSum g_X12_readUnit g_X12_readBoth g_X12_readTruth z h v0 v1 v2 = some h' → W p l e (rmO (8 + (d + 1)) (151 + 60 * (d + 1))) s m args below meth c H locs 0 0 (Zt below s0 E z h' (none) args s 0 0) (F0 m 139 ls []) := by
  have hx := B.1
  have hb := B.2.1
  intro h v0 v1 v2 H locs ls hw hl hf
  unfold f_X12_readUnit_139 at hf
  refine lv_aload_n hx hb dX12_readUnit_139 rfl (lv_at hl 0 rfl) ?_
  obtain ⟨h1, e, hf⟩ := ob hf
  refine q_callV (As := []) (rest := []) (st1 := []) (c_X12_next G e) B hw hz hc0 (k_X12_next e) (by decide) (ci := 12) rfl rfl my_X12_next mv_X12_next tw_6_166 ⟨by simp only [rmO, rmA]; omega, by simp only [rmO, rmA]; omega⟩ ⟨Nat.zero_le _, Nat.zero_le _⟩ rfl hl.1 rfl rfl (Nat.le_of_ble_eq_true rfl) dX12_readUnit_140 (fun H locs hw => ?_)
  refine lv_goto (tgt := 151) hx hb dX12_readUnit_143 (by decide) ?_
  exact w_X12_readUnit_151 G B hz hc0 hr hlk H_X12_readAtom H_X12_readIf H_X12_readTerm H_X12_readSum H_X12_readUnit H_X12_readBoth H_X12_readTruth  h1 v0 v1 v2 _ _ _ hw (lv_sub hl [0, 1, 2] rfl) hf
set_option maxHeartbeats 4000000 in
theorem w_X12_readUnit_111 {p : Program} {l : Launch} {e : Env} {s : State} {m : MethodId} {args : Array Value} {below : List Frame} {meth : Method} {c : Code} {s0 : State} {E : Ev} {z : Sh} {d : Nat} {g_X12_readAtom : Sh → Hp → Nat → Int32 → Option (Hp)} {g_X12_readIf : Sh → Hp → Nat → Int32 → Option (Hp)} {g_X12_readTerm : Sh → Hp → Nat → Int32 → Option (Hp)} {g_X12_readSum : Sh → Hp → Nat → Int32 → Option (Hp)} {g_X12_readUnit : Sh → Hp → Nat → Int32 → Option (Hp)} {g_X12_readBoth : Sh → Hp → Nat → Int32 → Option (Hp)} {g_X12_readTruth : Sh → Hp → Nat → Int32 → Option (Hp)} {n : Nat} {h' : Hp} (G : Gl s0 E) (B : Bd p s0 s E m c cX12_readUnit 3 RX12) (hz : s0.heap.size ≤ z.sz) (hc0 : s.heap.size + 0 = z.sz) (hr : meth.sig.returnType = none) (hlk : meth.locks = false) (H_X12_readAtom : ∀ {z : Sh} {h : Hp} {v0 : Nat} {v1 : Int32} {h' : Hp}, g_X12_readAtom z h v0 v1 = some h' → Ct l s0 E yX12_readAtom cX12_readAtom 2 none (8 + d) (151 + 60 * d) [.ref v0, .int v1] z h h' (none)) (H_X12_readIf : ∀ {z : Sh} {h : Hp} {v0 : Nat} {v1 : Int32} {h' : Hp}, g_X12_readIf z h v0 v1 = some h' → Ct l s0 E yX12_readIf cX12_readIf 2 none (8 + d) (151 + 60 * d) [.ref v0, .int v1] z h h' (none)) (H_X12_readTerm : ∀ {z : Sh} {h : Hp} {v0 : Nat} {v1 : Int32} {h' : Hp}, g_X12_readTerm z h v0 v1 = some h' → Ct l s0 E yX12_readTerm cX12_readTerm 2 none (8 + d) (151 + 60 * d) [.ref v0, .int v1] z h h' (none)) (H_X12_readSum : ∀ {z : Sh} {h : Hp} {v0 : Nat} {v1 : Int32} {h' : Hp}, g_X12_readSum z h v0 v1 = some h' → Ct l s0 E yX12_readSum cX12_readSum 3 none (8 + d) (151 + 60 * d) [.ref v0, .int v1] z h h' (none)) (H_X12_readUnit : ∀ {z : Sh} {h : Hp} {v0 : Nat} {v1 : Int32} {h' : Hp}, g_X12_readUnit z h v0 v1 = some h' → Ct l s0 E yX12_readUnit cX12_readUnit 3 none (8 + d) (151 + 60 * d) [.ref v0, .int v1] z h h' (none)) (H_X12_readBoth : ∀ {z : Sh} {h : Hp} {v0 : Nat} {v1 : Int32} {h' : Hp}, g_X12_readBoth z h v0 v1 = some h' → Ct l s0 E yX12_readBoth cX12_readBoth 2 none (8 + d) (151 + 60 * d) [.ref v0, .int v1] z h h' (none)) (H_X12_readTruth : ∀ {z : Sh} {h : Hp} {v0 : Nat} {v1 : Int32} {h' : Hp}, g_X12_readTruth z h v0 v1 = some h' → Ct l s0 E yX12_readTruth cX12_readTruth 2 none (8 + d) (151 + 60 * d) [.ref v0, .int v1] z h h' (none)) : ∀ (h : Hp) (v0 : Nat) (v1 : Int32) (u0 : Int32) (H : Heap) (locs : List Loc) (ls : Array Slot), Pw s0 s E z h H locs → lv_has ls 3 [(0, .ref v0), (1, .int v1)] → f_X12_readUnit_111 n g_X12_readAtom g_X12_readIf g_X12_readTerm g_X12_readSum g_X12_readUnit g_X12_readBoth g_X12_readTruth z h v0 v1 u0 = some h' → W p l e (rmO (8 + (d + 1)) (151 + 60 * (d + 1))) s m args below meth c H locs 0 0 (Zt below s0 E z h' (none) args s 0 0) (F0 m 111 ls [.int u0]) := by
  have hx := B.1
  have hb := B.2.1
  intro h v0 v1 u0 H locs ls hw hl hf
  unfold f_X12_readUnit_111 at hf
  refine lv_istore_n (lv' := [(2, .int u0), (0, .ref v0), (1, .int v1)]) hx hb dX12_readUnit_111 rfl hl (by decide) rfl (fun ls hl => ?_)
  refine lv_aload_n hx hb dX12_readUnit_112 rfl (lv_at hl 1 rfl) ?_
  refine lv_bipush (v := 39) hx hb dX12_readUnit_113 (by decide) ?_
  obtain ⟨x1, e, hf⟩ := ob hf
  refine q_callV (As := [.int 39]) (rest := []) (st1 := [.int x1]) (c_X12_is G e) B hw hz hc0 (k_X12_is e) (by decide) (ci := 12) rfl rfl my_X12_is mv_X12_is tw_6_192 ⟨by simp only [rmO, rmA]; omega, by simp only [rmO, rmA]; omega⟩ ⟨Nat.zero_le _, Nat.zero_le _⟩ rfl hl.1 rfl rfl (Nat.le_of_ble_eq_true rfl) dX12_readUnit_115 (fun H locs hw => ?_)
  refine lv_if_ne (tgt := 139) hx hb dX12_readUnit_118 (by decide) (fun c2 => ?_) (fun c2 => ?_)
  · have hf := (if_neg c2).symm.trans hf
    exact w_X12_readUnit_139 G B hz hc0 hr hlk H_X12_readAtom H_X12_readIf H_X12_readTerm H_X12_readSum H_X12_readUnit H_X12_readBoth H_X12_readTruth  h v0 v1 u0 _ _ _ hw (lv_sub hl [1, 2, 0] rfl) hf
  · have hf := (if_pos c2).symm.trans hf
    refine lv_aload_n hx hb dX12_readUnit_121 rfl (lv_at hl 1 rfl) ?_
    refine lv_bipush (v := 40) hx hb dX12_readUnit_122 (by decide) ?_
    obtain ⟨x3, e, hf⟩ := ob hf
    refine q_callV (As := [.int 40]) (rest := []) (st1 := [.int x3]) (c_X12_is G e) B hw hz hc0 (k_X12_is e) (by decide) (ci := 12) rfl rfl my_X12_is mv_X12_is tw_6_192 ⟨by simp only [rmO, rmA]; omega, by simp only [rmO, rmA]; omega⟩ ⟨Nat.zero_le _, Nat.zero_le _⟩ rfl hl.1 rfl rfl (Nat.le_of_ble_eq_true rfl) dX12_readUnit_124 (fun H locs hw => ?_)
    refine lv_if_ne (tgt := 139) hx hb dX12_readUnit_127 (by decide) (fun c4 => ?_) (fun c4 => ?_)
    · have hf := (if_neg c4).symm.trans hf
      exact w_X12_readUnit_139 G B hz hc0 hr hlk H_X12_readAtom H_X12_readIf H_X12_readTerm H_X12_readSum H_X12_readUnit H_X12_readBoth H_X12_readTruth  h v0 v1 u0 _ _ _ hw (lv_sub hl [1, 2, 0] rfl) hf
    · have hf := (if_pos c4).symm.trans hf
      refine lv_aload_n hx hb dX12_readUnit_130 rfl (lv_at hl 1 rfl) ?_
      refine lv_bipush (v := 41) hx hb dX12_readUnit_131 (by decide) ?_
      obtain ⟨x5, e, hf⟩ := ob hf
      refine q_callV (As := [.int 41]) (rest := []) (st1 := [.int x5]) (c_X12_is G e) B hw hz hc0 (k_X12_is e) (by decide) (ci := 12) rfl rfl my_X12_is mv_X12_is tw_6_192 ⟨by simp only [rmO, rmA]; omega, by simp only [rmO, rmA]; omega⟩ ⟨Nat.zero_le _, Nat.zero_le _⟩ rfl hl.1 rfl rfl (Nat.le_of_ble_eq_true rfl) dX12_readUnit_133 (fun H locs hw => ?_)
      refine lv_if_eq (tgt := 146) hx hb dX12_readUnit_136 (by decide) (fun c6 => ?_) (fun c6 => ?_)
      · have hf := (if_pos c6).symm.trans hf
        refine lv_aload_n hx hb dX12_readUnit_146 rfl (lv_at hl 1 rfl) ?_
        refine lv_iconst (v := 2) hx hb dX12_readUnit_147 (by decide) ?_
        obtain ⟨h7, e, hf⟩ := ob hf
        refine q_callV (As := [.int 2]) (rest := []) (st1 := []) (c_X12_fails G e) B hw hz hc0 (k_X12_fails e) (by decide) (ci := 12) rfl rfl my_X12_fails mv_X12_fails tw_6_196 ⟨by simp only [rmO, rmA]; omega, by simp only [rmO, rmA]; omega⟩ ⟨Nat.zero_le _, Nat.zero_le _⟩ rfl hl.1 rfl rfl (Nat.le_of_ble_eq_true rfl) dX12_readUnit_148 (fun H locs hw => ?_)
        exact w_X12_readUnit_151 G B hz hc0 hr hlk H_X12_readAtom H_X12_readIf H_X12_readTerm H_X12_readSum H_X12_readUnit H_X12_readBoth H_X12_readTruth  h7 v0 v1 u0 _ _ _ hw (lv_sub hl [1, 2, 0] rfl) hf
      · have hf := (if_neg c6).symm.trans hf
        exact w_X12_readUnit_139 G B hz hc0 hr hlk H_X12_readAtom H_X12_readIf H_X12_readTerm H_X12_readSum H_X12_readUnit H_X12_readBoth H_X12_readTruth  h v0 v1 u0 _ _ _ hw (lv_sub hl [1, 2, 0] rfl) hf
set_option maxHeartbeats 4000000 in
theorem co_X12_readUnit {l : Launch} {s0 : State} {E : Ev} (G : Gl s0 E) {n : Nat} {d : Nat} {g_X12_readAtom : Sh → Hp → Nat → Int32 → Option (Hp)} {g_X12_readIf : Sh → Hp → Nat → Int32 → Option (Hp)} {g_X12_readTerm : Sh → Hp → Nat → Int32 → Option (Hp)} {g_X12_readSum : Sh → Hp → Nat → Int32 → Option (Hp)} {g_X12_readUnit : Sh → Hp → Nat → Int32 → Option (Hp)} {g_X12_readBoth : Sh → Hp → Nat → Int32 → Option (Hp)} {g_X12_readTruth : Sh → Hp → Nat → Int32 → Option (Hp)} (H_X12_readAtom : ∀ {z : Sh} {h : Hp} {v0 : Nat} {v1 : Int32} {h' : Hp}, g_X12_readAtom z h v0 v1 = some h' → Ct l s0 E yX12_readAtom cX12_readAtom 2 none (8 + d) (151 + 60 * d) [.ref v0, .int v1] z h h' (none)) (H_X12_readIf : ∀ {z : Sh} {h : Hp} {v0 : Nat} {v1 : Int32} {h' : Hp}, g_X12_readIf z h v0 v1 = some h' → Ct l s0 E yX12_readIf cX12_readIf 2 none (8 + d) (151 + 60 * d) [.ref v0, .int v1] z h h' (none)) (H_X12_readTerm : ∀ {z : Sh} {h : Hp} {v0 : Nat} {v1 : Int32} {h' : Hp}, g_X12_readTerm z h v0 v1 = some h' → Ct l s0 E yX12_readTerm cX12_readTerm 2 none (8 + d) (151 + 60 * d) [.ref v0, .int v1] z h h' (none)) (H_X12_readSum : ∀ {z : Sh} {h : Hp} {v0 : Nat} {v1 : Int32} {h' : Hp}, g_X12_readSum z h v0 v1 = some h' → Ct l s0 E yX12_readSum cX12_readSum 3 none (8 + d) (151 + 60 * d) [.ref v0, .int v1] z h h' (none)) (H_X12_readUnit : ∀ {z : Sh} {h : Hp} {v0 : Nat} {v1 : Int32} {h' : Hp}, g_X12_readUnit z h v0 v1 = some h' → Ct l s0 E yX12_readUnit cX12_readUnit 3 none (8 + d) (151 + 60 * d) [.ref v0, .int v1] z h h' (none)) (H_X12_readBoth : ∀ {z : Sh} {h : Hp} {v0 : Nat} {v1 : Int32} {h' : Hp}, g_X12_readBoth z h v0 v1 = some h' → Ct l s0 E yX12_readBoth cX12_readBoth 2 none (8 + d) (151 + 60 * d) [.ref v0, .int v1] z h h' (none)) (H_X12_readTruth : ∀ {z : Sh} {h : Hp} {v0 : Nat} {v1 : Int32} {h' : Hp}, g_X12_readTruth z h v0 v1 = some h' → Ct l s0 E yX12_readTruth cX12_readTruth 2 none (8 + d) (151 + 60 * d) [.ref v0, .int v1] z h h' (none)) {z : Sh} {h : Hp} {v0 : Nat} {v1 : Int32} {h' : Hp} (hf : F_X12_readUnit n g_X12_readAtom g_X12_readIf g_X12_readTerm g_X12_readSum g_X12_readUnit g_X12_readBoth g_X12_readTruth z h v0 v1 = some h') : Ct l s0 E yX12_readUnit cX12_readUnit 3 none (8 + (d + 1)) (151 + 60 * (d + 1)) [.ref v0, .int v1] z h h' (none) := by
  refine Ct.of G (by decide) (Nat.le_of_ble_eq_true rfl) ?_
  intro p e s m below meth c ls B hw hz hc0 hr hlk hl
  have B : Bd p s0 s E m c cX12_readUnit 3 RX12 := B
  have hx := B.1
  have hb := B.2.1
  have hl : lv_has ls 3 [(0, .ref v0), (1, .int v1)] := hl
  unfold F_X12_readUnit at hf
  obtain ⟨_, hf⟩ := if_some hf
  refine lv_aload_n hx hb dX12_readUnit_0 rfl (lv_at hl 0 rfl) ?_
  refine lv_bipush (v := 22) hx hb dX12_readUnit_1 (by decide) ?_
  obtain ⟨x1, e, hf⟩ := ob hf
  refine q_callV (As := [.int 22]) (rest := []) (st1 := [.int x1]) (c_X12_is G e) B hw hz hc0 (k_X12_is e) (by decide) (ci := 12) rfl rfl my_X12_is mv_X12_is tw_6_192 ⟨by simp only [rmO, rmA]; omega, by simp only [rmO, rmA]; omega⟩ ⟨Nat.zero_le _, Nat.zero_le _⟩ rfl hl.1 rfl rfl (Nat.le_of_ble_eq_true rfl) dX12_readUnit_3 (fun H locs hw => ?_)
  refine lv_if_eq (tgt := 33) hx hb dX12_readUnit_6 (by decide) (fun c2 => ?_) (fun c2 => ?_)
  · have hf := (if_pos c2).symm.trans hf
    refine lv_aload_n hx hb dX12_readUnit_33 rfl (lv_at hl 0 rfl) ?_
    refine lv_bipush (v := 37) hx hb dX12_readUnit_34 (by decide) ?_
    obtain ⟨x3, e, hf⟩ := ob hf
    refine q_callV (As := [.int 37]) (rest := []) (st1 := [.int x3]) (c_X12_is G e) B hw hz hc0 (k_X12_is e) (by decide) (ci := 12) rfl rfl my_X12_is mv_X12_is tw_6_192 ⟨by simp only [rmO, rmA]; omega, by simp only [rmO, rmA]; omega⟩ ⟨Nat.zero_le _, Nat.zero_le _⟩ rfl hl.1 rfl rfl (Nat.le_of_ble_eq_true rfl) dX12_readUnit_36 (fun H locs hw => ?_)
    refine lv_if_eq (tgt := 73) hx hb dX12_readUnit_39 (by decide) (fun c4 => ?_) (fun c4 => ?_)
    · have hf := (if_pos c4).symm.trans hf
      refine lv_aload_n hx hb dX12_readUnit_73 rfl (lv_at hl 0 rfl) ?_
      refine lv_iload_n hx hb dX12_readUnit_74 rfl (lv_at hl 1 rfl) ?_
      obtain ⟨_, eK, hf⟩ := ob hf
      obtain ⟨h5, e, hf⟩ := ob hf
      refine q_callV (As := [.int v1]) (rest := []) (st1 := []) (H_X12_readSum e) B hw hz hc0 ((if_some eK).1) (by decide) (ci := 12) rfl rfl my_X12_readSum mv_X12_readSum tw_6_224 ⟨by simp only [rmO, rmA]; omega, by simp only [rmO, rmA]; omega⟩ ⟨Nat.zero_le _, Nat.zero_le _⟩ rfl hl.1 rfl rfl (Nat.le_of_ble_eq_true rfl) dX12_readUnit_75 (fun H locs hw => ?_)
      refine lv_aload_n hx hb dX12_readUnit_78 rfl (lv_at hl 0 rfl) ?_
      refine lv_bipush (v := 39) hx hb dX12_readUnit_79 (by decide) ?_
      obtain ⟨x6, e, hf⟩ := ob hf
      refine q_callV (As := [.int 39]) (rest := []) (st1 := [.int x6]) (c_X12_is G e) B hw hz hc0 (k_X12_is e) (by decide) (ci := 12) rfl rfl my_X12_is mv_X12_is tw_6_192 ⟨by simp only [rmO, rmA]; omega, by simp only [rmO, rmA]; omega⟩ ⟨Nat.zero_le _, Nat.zero_le _⟩ rfl hl.1 rfl rfl (Nat.le_of_ble_eq_true rfl) dX12_readUnit_81 (fun H locs hw => ?_)
      refine lv_if_eq (tgt := 93) hx hb dX12_readUnit_84 (by decide) (fun c7 => ?_) (fun c7 => ?_)
      · have hf := (if_pos c7).symm.trans hf
        refine lv_aload_n hx hb dX12_readUnit_93 rfl (lv_at hl 0 rfl) ?_
        refine lv_bipush (v := 40) hx hb dX12_readUnit_94 (by decide) ?_
        obtain ⟨x8, e, hf⟩ := ob hf
        refine q_callV (As := [.int 40]) (rest := []) (st1 := [.int x8]) (c_X12_is G e) B hw hz hc0 (k_X12_is e) (by decide) (ci := 12) rfl rfl my_X12_is mv_X12_is tw_6_192 ⟨by simp only [rmO, rmA]; omega, by simp only [rmO, rmA]; omega⟩ ⟨Nat.zero_le _, Nat.zero_le _⟩ rfl hl.1 rfl rfl (Nat.le_of_ble_eq_true rfl) dX12_readUnit_96 (fun H locs hw => ?_)
        refine lv_if_eq (tgt := 108) hx hb dX12_readUnit_99 (by decide) (fun c9 => ?_) (fun c9 => ?_)
        · have hf := (if_pos c9).symm.trans hf
          refine lv_sipush (v := 3005) hx hb dX12_readUnit_108 (by decide) ?_
          exact w_X12_readUnit_111 G B hz hc0 hr hlk H_X12_readAtom H_X12_readIf H_X12_readTerm H_X12_readSum H_X12_readUnit H_X12_readBoth H_X12_readTruth  h5 v0 v1 3005 _ _ _ hw (lv_sub hl [0, 1] rfl) hf
        · have hf := (if_neg c9).symm.trans hf
          refine lv_sipush (v := 3004) hx hb dX12_readUnit_102 (by decide) ?_
          refine lv_goto (tgt := 111) hx hb dX12_readUnit_105 (by decide) ?_
          exact w_X12_readUnit_111 G B hz hc0 hr hlk H_X12_readAtom H_X12_readIf H_X12_readTerm H_X12_readSum H_X12_readUnit H_X12_readBoth H_X12_readTruth  h5 v0 v1 3004 _ _ _ hw (lv_sub hl [0, 1] rfl) hf
      · have hf := (if_neg c7).symm.trans hf
        refine lv_sipush (v := 3003) hx hb dX12_readUnit_87 (by decide) ?_
        refine lv_goto (tgt := 111) hx hb dX12_readUnit_90 (by decide) ?_
        exact w_X12_readUnit_111 G B hz hc0 hr hlk H_X12_readAtom H_X12_readIf H_X12_readTerm H_X12_readSum H_X12_readUnit H_X12_readBoth H_X12_readTruth  h5 v0 v1 3003 _ _ _ hw (lv_sub hl [0, 1] rfl) hf
    · have hf := (if_neg c4).symm.trans hf
      refine lv_aload_n hx hb dX12_readUnit_42 rfl (lv_at hl 0 rfl) ?_
      refine lv_iload_n hx hb dX12_readUnit_43 rfl (lv_at hl 1 rfl) ?_
      obtain ⟨⟨x10, h11⟩, e, hf⟩ := ob hf
      refine q_callV (As := [.int v1]) (rest := []) (st1 := [.int x10]) (c_X12_goesIn G e) B hw hz hc0 (k_X12_goesIn e) (by decide) (ci := 12) rfl rfl my_X12_goesIn mv_X12_goesIn tw_7_6 ⟨by simp only [rmO, rmA]; omega, by simp only [rmO, rmA]; omega⟩ ⟨Nat.zero_le _, Nat.zero_le _⟩ rfl hl.1 rfl rfl (Nat.le_of_ble_eq_true rfl) dX12_readUnit_44 (fun H locs hw => ?_)
      refine lv_if_ne (tgt := 51) hx hb dX12_readUnit_47 (by decide) (fun c12 => ?_) (fun c12 => ?_)
      · have hf := (if_neg c12).symm.trans hf
        refine lv_aload_n hx hb dX12_readUnit_51 rfl (lv_at hl 0 rfl) ?_
        refine lv_iload_n hx hb dX12_readUnit_52 rfl (lv_at hl 1 rfl) ?_
        refine lv_iconst (v := 1) hx hb dX12_readUnit_53 (by decide) ?_
        refine lv_iadd hx hb dX12_readUnit_54 ?_
        obtain ⟨_, eK, hf⟩ := ob hf
        obtain ⟨h13, e, hf⟩ := ob hf
        refine q_callV (As := [.int (v1 + 1)]) (rest := []) (st1 := []) (H_X12_readTruth e) B hw hz hc0 ((if_some eK).1) (by decide) (ci := 12) rfl rfl my_X12_readTruth mv_X12_readTruth tw_7_14 ⟨by simp only [rmO, rmA]; omega, by simp only [rmO, rmA]; omega⟩ ⟨Nat.zero_le _, Nat.zero_le _⟩ rfl hl.1 rfl rfl (Nat.le_of_ble_eq_true rfl) dX12_readUnit_55 (fun H locs hw => ?_)
        refine lv_aload_n hx hb dX12_readUnit_58 rfl (lv_at hl 0 rfl) ?_
        refine lv_bipush (v := 38) hx hb dX12_readUnit_59 (by decide) ?_
        obtain ⟨⟨x14, h15⟩, e, hf⟩ := ob hf
        refine q_callV (As := [.int 38]) (rest := []) (st1 := [.int x14]) (c_X12_eats G e) B hw hz hc0 (k_X12_eats e) (by decide) (ci := 12) rfl rfl my_X12_eats mv_X12_eats tw_6_188 ⟨by simp only [rmO, rmA]; omega, by simp only [rmO, rmA]; omega⟩ ⟨Nat.zero_le _, Nat.zero_le _⟩ rfl hl.1 rfl rfl (Nat.le_of_ble_eq_true rfl) dX12_readUnit_61 (fun H locs hw => ?_)
        refine lv_if_ne (tgt := 72) hx hb dX12_readUnit_64 (by decide) (fun c16 => ?_) (fun c16 => ?_)
        · have hf := (if_neg c16).symm.trans hf
          obtain rfl := so hf
          exact q_vret B hw hz hc0 hr hlk dX12_readUnit_72
        · have hf := (if_pos c16).symm.trans hf
          refine lv_aload_n hx hb dX12_readUnit_67 rfl (lv_at hl 0 rfl) ?_
          refine lv_iconst (v := 2) hx hb dX12_readUnit_68 (by decide) ?_
          obtain ⟨h17, e, hf⟩ := ob hf
          refine q_callV (As := [.int 2]) (rest := []) (st1 := []) (c_X12_fails G e) B hw hz hc0 (k_X12_fails e) (by decide) (ci := 12) rfl rfl my_X12_fails mv_X12_fails tw_6_196 ⟨by simp only [rmO, rmA]; omega, by simp only [rmO, rmA]; omega⟩ ⟨Nat.zero_le _, Nat.zero_le _⟩ rfl hl.1 rfl rfl (Nat.le_of_ble_eq_true rfl) dX12_readUnit_69 (fun H locs hw => ?_)
          obtain rfl := so hf
          exact q_vret B hw hz hc0 hr hlk dX12_readUnit_72
      · have hf := (if_pos c12).symm.trans hf
        obtain rfl := so hf
        exact q_vret B hw hz hc0 hr hlk dX12_readUnit_50
  · have hf := (if_neg c2).symm.trans hf
    refine lv_aload_n hx hb dX12_readUnit_9 rfl (lv_at hl 0 rfl) ?_
    refine lv_iload_n hx hb dX12_readUnit_10 rfl (lv_at hl 1 rfl) ?_
    obtain ⟨⟨x18, h19⟩, e, hf⟩ := ob hf
    refine q_callV (As := [.int v1]) (rest := []) (st1 := [.int x18]) (c_X12_goesIn G e) B hw hz hc0 (k_X12_goesIn e) (by decide) (ci := 12) rfl rfl my_X12_goesIn mv_X12_goesIn tw_7_6 ⟨by simp only [rmO, rmA]; omega, by simp only [rmO, rmA]; omega⟩ ⟨Nat.zero_le _, Nat.zero_le _⟩ rfl hl.1 rfl rfl (Nat.le_of_ble_eq_true rfl) dX12_readUnit_11 (fun H locs hw => ?_)
    refine lv_if_ne (tgt := 18) hx hb dX12_readUnit_14 (by decide) (fun c20 => ?_) (fun c20 => ?_)
    · have hf := (if_neg c20).symm.trans hf
      refine lv_aload_n hx hb dX12_readUnit_18 rfl (lv_at hl 0 rfl) ?_
      refine lv_iload_n hx hb dX12_readUnit_19 rfl (lv_at hl 1 rfl) ?_
      refine lv_iconst (v := 1) hx hb dX12_readUnit_20 (by decide) ?_
      refine lv_iadd hx hb dX12_readUnit_21 ?_
      obtain ⟨_, eK, hf⟩ := ob hf
      obtain ⟨h21, e, hf⟩ := ob hf
      refine q_callV (As := [.int (v1 + 1)]) (rest := []) (st1 := []) (H_X12_readUnit e) B hw hz hc0 ((if_some eK).1) (by decide) (ci := 12) rfl rfl my_X12_readUnit mv_X12_readUnit tw_7_22 ⟨by simp only [rmO, rmA]; omega, by simp only [rmO, rmA]; omega⟩ ⟨Nat.zero_le _, Nat.zero_le _⟩ rfl hl.1 rfl rfl (Nat.le_of_ble_eq_true rfl) dX12_readUnit_22 (fun H locs hw => ?_)
      refine lv_aload_n hx hb dX12_readUnit_25 rfl (lv_at hl 0 rfl) ?_
      refine lv_sipush (v := 3006) hx hb dX12_readUnit_26 (by decide) ?_
      obtain ⟨h22, e, hf⟩ := ob hf
      refine q_callV (As := [.int 3006]) (rest := []) (st1 := []) (c_X12_codes G e) B hw hz hc0 (k_X12_codes e) (by decide) (ci := 12) rfl rfl my_X12_codes mv_X12_codes tw_6_236 ⟨by simp only [rmO, rmA]; omega, by simp only [rmO, rmA]; omega⟩ ⟨Nat.zero_le _, Nat.zero_le _⟩ rfl hl.1 rfl rfl (Nat.le_of_ble_eq_true rfl) dX12_readUnit_29 (fun H locs hw => ?_)
      obtain rfl := so hf
      exact q_vret B hw hz hc0 hr hlk dX12_readUnit_32
    · have hf := (if_pos c20).symm.trans hf
      obtain rfl := so hf
      exact q_vret B hw hz hc0 hr hlk dX12_readUnit_17
set_option maxHeartbeats 4000000 in
theorem w_X12_readBoth_5 {p : Program} {l : Launch} {e : Env} {s : State} {m : MethodId} {args : Array Value} {below : List Frame} {meth : Method} {c : Code} {s0 : State} {E : Ev} {z : Sh} {d : Nat} {g_X12_readAtom : Sh → Hp → Nat → Int32 → Option (Hp)} {g_X12_readIf : Sh → Hp → Nat → Int32 → Option (Hp)} {g_X12_readTerm : Sh → Hp → Nat → Int32 → Option (Hp)} {g_X12_readSum : Sh → Hp → Nat → Int32 → Option (Hp)} {g_X12_readUnit : Sh → Hp → Nat → Int32 → Option (Hp)} {g_X12_readBoth : Sh → Hp → Nat → Int32 → Option (Hp)} {g_X12_readTruth : Sh → Hp → Nat → Int32 → Option (Hp)} {n : Nat} {h' : Hp} (G : Gl s0 E) (B : Bd p s0 s E m c cX12_readBoth 2 RX12) (hz : s0.heap.size ≤ z.sz) (hc0 : s.heap.size + 0 = z.sz) (hr : meth.sig.returnType = none) (hlk : meth.locks = false) (H_X12_readAtom : ∀ {z : Sh} {h : Hp} {v0 : Nat} {v1 : Int32} {h' : Hp}, g_X12_readAtom z h v0 v1 = some h' → Ct l s0 E yX12_readAtom cX12_readAtom 2 none (8 + d) (151 + 60 * d) [.ref v0, .int v1] z h h' (none)) (H_X12_readIf : ∀ {z : Sh} {h : Hp} {v0 : Nat} {v1 : Int32} {h' : Hp}, g_X12_readIf z h v0 v1 = some h' → Ct l s0 E yX12_readIf cX12_readIf 2 none (8 + d) (151 + 60 * d) [.ref v0, .int v1] z h h' (none)) (H_X12_readTerm : ∀ {z : Sh} {h : Hp} {v0 : Nat} {v1 : Int32} {h' : Hp}, g_X12_readTerm z h v0 v1 = some h' → Ct l s0 E yX12_readTerm cX12_readTerm 2 none (8 + d) (151 + 60 * d) [.ref v0, .int v1] z h h' (none)) (H_X12_readSum : ∀ {z : Sh} {h : Hp} {v0 : Nat} {v1 : Int32} {h' : Hp}, g_X12_readSum z h v0 v1 = some h' → Ct l s0 E yX12_readSum cX12_readSum 3 none (8 + d) (151 + 60 * d) [.ref v0, .int v1] z h h' (none)) (H_X12_readUnit : ∀ {z : Sh} {h : Hp} {v0 : Nat} {v1 : Int32} {h' : Hp}, g_X12_readUnit z h v0 v1 = some h' → Ct l s0 E yX12_readUnit cX12_readUnit 3 none (8 + d) (151 + 60 * d) [.ref v0, .int v1] z h h' (none)) (H_X12_readBoth : ∀ {z : Sh} {h : Hp} {v0 : Nat} {v1 : Int32} {h' : Hp}, g_X12_readBoth z h v0 v1 = some h' → Ct l s0 E yX12_readBoth cX12_readBoth 2 none (8 + d) (151 + 60 * d) [.ref v0, .int v1] z h h' (none)) (H_X12_readTruth : ∀ {z : Sh} {h : Hp} {v0 : Nat} {v1 : Int32} {h' : Hp}, g_X12_readTruth z h v0 v1 = some h' → Ct l s0 E yX12_readTruth cX12_readTruth 2 none (8 + d) (151 + 60 * d) [.ref v0, .int v1] z h h' (none)) : ∀ (i : Nat), ∀ (h : Hp) (v0 : Nat) (v1 : Int32) (H : Heap) (locs : List Loc) (ls : Array Slot), Pw s0 s E z h H locs → lv_has ls 2 [(0, .ref v0), (1, .int v1)] → f_X12_readBoth_5 n g_X12_readAtom g_X12_readIf g_X12_readTerm g_X12_readSum g_X12_readUnit g_X12_readBoth g_X12_readTruth z i h v0 v1 = some h' → W p l e (rmO (8 + (d + 1)) (151 + 60 * (d + 1))) s m args below meth c H locs 0 0 (Zt below s0 E z h' (none) args s 0 0) (F0 m 5 ls []) := by
  have hx := B.1
  have hb := B.2.1
  intro i
  induction i with
  | zero =>
    intro h v0 v1 H locs ls hw hl hf
    have hf := (f_X12_readBoth_5.eq_1 ..).symm.trans hf
    cases hf
  | succ i ih =>
    intro h v0 v1 H locs ls hw hl hf
    have hf := (f_X12_readBoth_5.eq_2 ..).symm.trans hf
    refine lv_aload_n hx hb dX12_readBoth_5 rfl (lv_at hl 0 rfl) ?_
    refine lv_bipush (v := 20) hx hb dX12_readBoth_6 (by decide) ?_
    obtain ⟨⟨x1, h2⟩, e, hf⟩ := ob hf
    refine q_callV (As := [.int 20]) (rest := []) (st1 := [.int x1]) (c_X12_eats G e) B hw hz hc0 (k_X12_eats e) (by decide) (ci := 12) rfl rfl my_X12_eats mv_X12_eats tw_6_188 ⟨by simp only [rmO, rmA]; omega, by simp only [rmO, rmA]; omega⟩ ⟨Nat.zero_le _, Nat.zero_le _⟩ rfl hl.1 rfl rfl (Nat.le_of_ble_eq_true rfl) dX12_readBoth_8 (fun H locs hw => ?_)
    refine lv_if_eq (tgt := 29) hx hb dX12_readBoth_11 (by decide) (fun c3 => ?_) (fun c3 => ?_)
    · have hf := (if_pos c3).symm.trans hf
      obtain rfl := so hf
      exact q_vret B hw hz hc0 hr hlk dX12_readBoth_29
    · have hf := (if_neg c3).symm.trans hf
      refine lv_aload_n hx hb dX12_readBoth_14 rfl (lv_at hl 0 rfl) ?_
      refine lv_iload_n hx hb dX12_readBoth_15 rfl (lv_at hl 1 rfl) ?_
      obtain ⟨_, eK, hf⟩ := ob hf
      obtain ⟨h4, e, hf⟩ := ob hf
      refine q_callV (As := [.int v1]) (rest := []) (st1 := []) (H_X12_readUnit e) B hw hz hc0 ((if_some eK).1) (by decide) (ci := 12) rfl rfl my_X12_readUnit mv_X12_readUnit tw_7_22 ⟨by simp only [rmO, rmA]; omega, by simp only [rmO, rmA]; omega⟩ ⟨Nat.zero_le _, Nat.zero_le _⟩ rfl hl.1 rfl rfl (Nat.le_of_ble_eq_true rfl) dX12_readBoth_16 (fun H locs hw => ?_)
      refine lv_aload_n hx hb dX12_readBoth_19 rfl (lv_at hl 0 rfl) ?_
      refine lv_sipush (v := 3007) hx hb dX12_readBoth_20 (by decide) ?_
      obtain ⟨h5, e, hf⟩ := ob hf
      refine q_callV (As := [.int 3007]) (rest := []) (st1 := []) (c_X12_codes G e) B hw hz hc0 (k_X12_codes e) (by decide) (ci := 12) rfl rfl my_X12_codes mv_X12_codes tw_6_236 ⟨by simp only [rmO, rmA]; omega, by simp only [rmO, rmA]; omega⟩ ⟨Nat.zero_le _, Nat.zero_le _⟩ rfl hl.1 rfl rfl (Nat.le_of_ble_eq_true rfl) dX12_readBoth_23 (fun H locs hw => ?_)
      refine lv_goto (tgt := 5) hx hb dX12_readBoth_26 (by decide) ?_
      exact ih h5 v0 v1 _ _ _ hw (lv_sub hl [0, 1] rfl) hf
set_option maxHeartbeats 4000000 in
theorem co_X12_readBoth {l : Launch} {s0 : State} {E : Ev} (G : Gl s0 E) {n : Nat} {d : Nat} {g_X12_readAtom : Sh → Hp → Nat → Int32 → Option (Hp)} {g_X12_readIf : Sh → Hp → Nat → Int32 → Option (Hp)} {g_X12_readTerm : Sh → Hp → Nat → Int32 → Option (Hp)} {g_X12_readSum : Sh → Hp → Nat → Int32 → Option (Hp)} {g_X12_readUnit : Sh → Hp → Nat → Int32 → Option (Hp)} {g_X12_readBoth : Sh → Hp → Nat → Int32 → Option (Hp)} {g_X12_readTruth : Sh → Hp → Nat → Int32 → Option (Hp)} (H_X12_readAtom : ∀ {z : Sh} {h : Hp} {v0 : Nat} {v1 : Int32} {h' : Hp}, g_X12_readAtom z h v0 v1 = some h' → Ct l s0 E yX12_readAtom cX12_readAtom 2 none (8 + d) (151 + 60 * d) [.ref v0, .int v1] z h h' (none)) (H_X12_readIf : ∀ {z : Sh} {h : Hp} {v0 : Nat} {v1 : Int32} {h' : Hp}, g_X12_readIf z h v0 v1 = some h' → Ct l s0 E yX12_readIf cX12_readIf 2 none (8 + d) (151 + 60 * d) [.ref v0, .int v1] z h h' (none)) (H_X12_readTerm : ∀ {z : Sh} {h : Hp} {v0 : Nat} {v1 : Int32} {h' : Hp}, g_X12_readTerm z h v0 v1 = some h' → Ct l s0 E yX12_readTerm cX12_readTerm 2 none (8 + d) (151 + 60 * d) [.ref v0, .int v1] z h h' (none)) (H_X12_readSum : ∀ {z : Sh} {h : Hp} {v0 : Nat} {v1 : Int32} {h' : Hp}, g_X12_readSum z h v0 v1 = some h' → Ct l s0 E yX12_readSum cX12_readSum 3 none (8 + d) (151 + 60 * d) [.ref v0, .int v1] z h h' (none)) (H_X12_readUnit : ∀ {z : Sh} {h : Hp} {v0 : Nat} {v1 : Int32} {h' : Hp}, g_X12_readUnit z h v0 v1 = some h' → Ct l s0 E yX12_readUnit cX12_readUnit 3 none (8 + d) (151 + 60 * d) [.ref v0, .int v1] z h h' (none)) (H_X12_readBoth : ∀ {z : Sh} {h : Hp} {v0 : Nat} {v1 : Int32} {h' : Hp}, g_X12_readBoth z h v0 v1 = some h' → Ct l s0 E yX12_readBoth cX12_readBoth 2 none (8 + d) (151 + 60 * d) [.ref v0, .int v1] z h h' (none)) (H_X12_readTruth : ∀ {z : Sh} {h : Hp} {v0 : Nat} {v1 : Int32} {h' : Hp}, g_X12_readTruth z h v0 v1 = some h' → Ct l s0 E yX12_readTruth cX12_readTruth 2 none (8 + d) (151 + 60 * d) [.ref v0, .int v1] z h h' (none)) {z : Sh} {h : Hp} {v0 : Nat} {v1 : Int32} {h' : Hp} (hf : F_X12_readBoth n g_X12_readAtom g_X12_readIf g_X12_readTerm g_X12_readSum g_X12_readUnit g_X12_readBoth g_X12_readTruth z h v0 v1 = some h') : Ct l s0 E yX12_readBoth cX12_readBoth 2 none (8 + (d + 1)) (151 + 60 * (d + 1)) [.ref v0, .int v1] z h h' (none) := by
  refine Ct.of G (by decide) (Nat.le_of_ble_eq_true rfl) ?_
  intro p e s m below meth c ls B hw hz hc0 hr hlk hl
  have B : Bd p s0 s E m c cX12_readBoth 2 RX12 := B
  have hx := B.1
  have hb := B.2.1
  have hl : lv_has ls 2 [(0, .ref v0), (1, .int v1)] := hl
  unfold F_X12_readBoth at hf
  obtain ⟨_, hf⟩ := if_some hf
  refine lv_aload_n hx hb dX12_readBoth_0 rfl (lv_at hl 0 rfl) ?_
  refine lv_iload_n hx hb dX12_readBoth_1 rfl (lv_at hl 1 rfl) ?_
  obtain ⟨_, eK, hf⟩ := ob hf
  obtain ⟨h1, e, hf⟩ := ob hf
  refine q_callV (As := [.int v1]) (rest := []) (st1 := []) (H_X12_readUnit e) B hw hz hc0 ((if_some eK).1) (by decide) (ci := 12) rfl rfl my_X12_readUnit mv_X12_readUnit tw_7_22 ⟨by simp only [rmO, rmA]; omega, by simp only [rmO, rmA]; omega⟩ ⟨Nat.zero_le _, Nat.zero_le _⟩ rfl hl.1 rfl rfl (Nat.le_of_ble_eq_true rfl) dX12_readBoth_2 (fun H locs hw => ?_)
  exact w_X12_readBoth_5 G B hz hc0 hr hlk H_X12_readAtom H_X12_readIf H_X12_readTerm H_X12_readSum H_X12_readUnit H_X12_readBoth H_X12_readTruth  n h1 v0 v1 _ _ _ hw (lv_sub hl [0, 1] rfl) hf
set_option maxHeartbeats 4000000 in
theorem w_X12_readTruth_5 {p : Program} {l : Launch} {e : Env} {s : State} {m : MethodId} {args : Array Value} {below : List Frame} {meth : Method} {c : Code} {s0 : State} {E : Ev} {z : Sh} {d : Nat} {g_X12_readAtom : Sh → Hp → Nat → Int32 → Option (Hp)} {g_X12_readIf : Sh → Hp → Nat → Int32 → Option (Hp)} {g_X12_readTerm : Sh → Hp → Nat → Int32 → Option (Hp)} {g_X12_readSum : Sh → Hp → Nat → Int32 → Option (Hp)} {g_X12_readUnit : Sh → Hp → Nat → Int32 → Option (Hp)} {g_X12_readBoth : Sh → Hp → Nat → Int32 → Option (Hp)} {g_X12_readTruth : Sh → Hp → Nat → Int32 → Option (Hp)} {n : Nat} {h' : Hp} (G : Gl s0 E) (B : Bd p s0 s E m c cX12_readTruth 2 RX12) (hz : s0.heap.size ≤ z.sz) (hc0 : s.heap.size + 0 = z.sz) (hr : meth.sig.returnType = none) (hlk : meth.locks = false) (H_X12_readAtom : ∀ {z : Sh} {h : Hp} {v0 : Nat} {v1 : Int32} {h' : Hp}, g_X12_readAtom z h v0 v1 = some h' → Ct l s0 E yX12_readAtom cX12_readAtom 2 none (8 + d) (151 + 60 * d) [.ref v0, .int v1] z h h' (none)) (H_X12_readIf : ∀ {z : Sh} {h : Hp} {v0 : Nat} {v1 : Int32} {h' : Hp}, g_X12_readIf z h v0 v1 = some h' → Ct l s0 E yX12_readIf cX12_readIf 2 none (8 + d) (151 + 60 * d) [.ref v0, .int v1] z h h' (none)) (H_X12_readTerm : ∀ {z : Sh} {h : Hp} {v0 : Nat} {v1 : Int32} {h' : Hp}, g_X12_readTerm z h v0 v1 = some h' → Ct l s0 E yX12_readTerm cX12_readTerm 2 none (8 + d) (151 + 60 * d) [.ref v0, .int v1] z h h' (none)) (H_X12_readSum : ∀ {z : Sh} {h : Hp} {v0 : Nat} {v1 : Int32} {h' : Hp}, g_X12_readSum z h v0 v1 = some h' → Ct l s0 E yX12_readSum cX12_readSum 3 none (8 + d) (151 + 60 * d) [.ref v0, .int v1] z h h' (none)) (H_X12_readUnit : ∀ {z : Sh} {h : Hp} {v0 : Nat} {v1 : Int32} {h' : Hp}, g_X12_readUnit z h v0 v1 = some h' → Ct l s0 E yX12_readUnit cX12_readUnit 3 none (8 + d) (151 + 60 * d) [.ref v0, .int v1] z h h' (none)) (H_X12_readBoth : ∀ {z : Sh} {h : Hp} {v0 : Nat} {v1 : Int32} {h' : Hp}, g_X12_readBoth z h v0 v1 = some h' → Ct l s0 E yX12_readBoth cX12_readBoth 2 none (8 + d) (151 + 60 * d) [.ref v0, .int v1] z h h' (none)) (H_X12_readTruth : ∀ {z : Sh} {h : Hp} {v0 : Nat} {v1 : Int32} {h' : Hp}, g_X12_readTruth z h v0 v1 = some h' → Ct l s0 E yX12_readTruth cX12_readTruth 2 none (8 + d) (151 + 60 * d) [.ref v0, .int v1] z h h' (none)) : ∀ (i : Nat), ∀ (h : Hp) (v0 : Nat) (v1 : Int32) (H : Heap) (locs : List Loc) (ls : Array Slot), Pw s0 s E z h H locs → lv_has ls 2 [(0, .ref v0), (1, .int v1)] → f_X12_readTruth_5 n g_X12_readAtom g_X12_readIf g_X12_readTerm g_X12_readSum g_X12_readUnit g_X12_readBoth g_X12_readTruth z i h v0 v1 = some h' → W p l e (rmO (8 + (d + 1)) (151 + 60 * (d + 1))) s m args below meth c H locs 0 0 (Zt below s0 E z h' (none) args s 0 0) (F0 m 5 ls []) := by
  have hx := B.1
  have hb := B.2.1
  intro i
  induction i with
  | zero =>
    intro h v0 v1 H locs ls hw hl hf
    have hf := (f_X12_readTruth_5.eq_1 ..).symm.trans hf
    cases hf
  | succ i ih =>
    intro h v0 v1 H locs ls hw hl hf
    have hf := (f_X12_readTruth_5.eq_2 ..).symm.trans hf
    refine lv_aload_n hx hb dX12_readTruth_5 rfl (lv_at hl 0 rfl) ?_
    refine lv_bipush (v := 21) hx hb dX12_readTruth_6 (by decide) ?_
    obtain ⟨⟨x1, h2⟩, e, hf⟩ := ob hf
    refine q_callV (As := [.int 21]) (rest := []) (st1 := [.int x1]) (c_X12_eats G e) B hw hz hc0 (k_X12_eats e) (by decide) (ci := 12) rfl rfl my_X12_eats mv_X12_eats tw_6_188 ⟨by simp only [rmO, rmA]; omega, by simp only [rmO, rmA]; omega⟩ ⟨Nat.zero_le _, Nat.zero_le _⟩ rfl hl.1 rfl rfl (Nat.le_of_ble_eq_true rfl) dX12_readTruth_8 (fun H locs hw => ?_)
    refine lv_if_eq (tgt := 29) hx hb dX12_readTruth_11 (by decide) (fun c3 => ?_) (fun c3 => ?_)
    · have hf := (if_pos c3).symm.trans hf
      obtain rfl := so hf
      exact q_vret B hw hz hc0 hr hlk dX12_readTruth_29
    · have hf := (if_neg c3).symm.trans hf
      refine lv_aload_n hx hb dX12_readTruth_14 rfl (lv_at hl 0 rfl) ?_
      refine lv_iload_n hx hb dX12_readTruth_15 rfl (lv_at hl 1 rfl) ?_
      obtain ⟨_, eK, hf⟩ := ob hf
      obtain ⟨h4, e, hf⟩ := ob hf
      refine q_callV (As := [.int v1]) (rest := []) (st1 := []) (H_X12_readBoth e) B hw hz hc0 ((if_some eK).1) (by decide) (ci := 12) rfl rfl my_X12_readBoth mv_X12_readBoth tw_7_18 ⟨by simp only [rmO, rmA]; omega, by simp only [rmO, rmA]; omega⟩ ⟨Nat.zero_le _, Nat.zero_le _⟩ rfl hl.1 rfl rfl (Nat.le_of_ble_eq_true rfl) dX12_readTruth_16 (fun H locs hw => ?_)
      refine lv_aload_n hx hb dX12_readTruth_19 rfl (lv_at hl 0 rfl) ?_
      refine lv_sipush (v := 3008) hx hb dX12_readTruth_20 (by decide) ?_
      obtain ⟨h5, e, hf⟩ := ob hf
      refine q_callV (As := [.int 3008]) (rest := []) (st1 := []) (c_X12_codes G e) B hw hz hc0 (k_X12_codes e) (by decide) (ci := 12) rfl rfl my_X12_codes mv_X12_codes tw_6_236 ⟨by simp only [rmO, rmA]; omega, by simp only [rmO, rmA]; omega⟩ ⟨Nat.zero_le _, Nat.zero_le _⟩ rfl hl.1 rfl rfl (Nat.le_of_ble_eq_true rfl) dX12_readTruth_23 (fun H locs hw => ?_)
      refine lv_goto (tgt := 5) hx hb dX12_readTruth_26 (by decide) ?_
      exact ih h5 v0 v1 _ _ _ hw (lv_sub hl [0, 1] rfl) hf
set_option maxHeartbeats 4000000 in
theorem co_X12_readTruth {l : Launch} {s0 : State} {E : Ev} (G : Gl s0 E) {n : Nat} {d : Nat} {g_X12_readAtom : Sh → Hp → Nat → Int32 → Option (Hp)} {g_X12_readIf : Sh → Hp → Nat → Int32 → Option (Hp)} {g_X12_readTerm : Sh → Hp → Nat → Int32 → Option (Hp)} {g_X12_readSum : Sh → Hp → Nat → Int32 → Option (Hp)} {g_X12_readUnit : Sh → Hp → Nat → Int32 → Option (Hp)} {g_X12_readBoth : Sh → Hp → Nat → Int32 → Option (Hp)} {g_X12_readTruth : Sh → Hp → Nat → Int32 → Option (Hp)} (H_X12_readAtom : ∀ {z : Sh} {h : Hp} {v0 : Nat} {v1 : Int32} {h' : Hp}, g_X12_readAtom z h v0 v1 = some h' → Ct l s0 E yX12_readAtom cX12_readAtom 2 none (8 + d) (151 + 60 * d) [.ref v0, .int v1] z h h' (none)) (H_X12_readIf : ∀ {z : Sh} {h : Hp} {v0 : Nat} {v1 : Int32} {h' : Hp}, g_X12_readIf z h v0 v1 = some h' → Ct l s0 E yX12_readIf cX12_readIf 2 none (8 + d) (151 + 60 * d) [.ref v0, .int v1] z h h' (none)) (H_X12_readTerm : ∀ {z : Sh} {h : Hp} {v0 : Nat} {v1 : Int32} {h' : Hp}, g_X12_readTerm z h v0 v1 = some h' → Ct l s0 E yX12_readTerm cX12_readTerm 2 none (8 + d) (151 + 60 * d) [.ref v0, .int v1] z h h' (none)) (H_X12_readSum : ∀ {z : Sh} {h : Hp} {v0 : Nat} {v1 : Int32} {h' : Hp}, g_X12_readSum z h v0 v1 = some h' → Ct l s0 E yX12_readSum cX12_readSum 3 none (8 + d) (151 + 60 * d) [.ref v0, .int v1] z h h' (none)) (H_X12_readUnit : ∀ {z : Sh} {h : Hp} {v0 : Nat} {v1 : Int32} {h' : Hp}, g_X12_readUnit z h v0 v1 = some h' → Ct l s0 E yX12_readUnit cX12_readUnit 3 none (8 + d) (151 + 60 * d) [.ref v0, .int v1] z h h' (none)) (H_X12_readBoth : ∀ {z : Sh} {h : Hp} {v0 : Nat} {v1 : Int32} {h' : Hp}, g_X12_readBoth z h v0 v1 = some h' → Ct l s0 E yX12_readBoth cX12_readBoth 2 none (8 + d) (151 + 60 * d) [.ref v0, .int v1] z h h' (none)) (H_X12_readTruth : ∀ {z : Sh} {h : Hp} {v0 : Nat} {v1 : Int32} {h' : Hp}, g_X12_readTruth z h v0 v1 = some h' → Ct l s0 E yX12_readTruth cX12_readTruth 2 none (8 + d) (151 + 60 * d) [.ref v0, .int v1] z h h' (none)) {z : Sh} {h : Hp} {v0 : Nat} {v1 : Int32} {h' : Hp} (hf : F_X12_readTruth n g_X12_readAtom g_X12_readIf g_X12_readTerm g_X12_readSum g_X12_readUnit g_X12_readBoth g_X12_readTruth z h v0 v1 = some h') : Ct l s0 E yX12_readTruth cX12_readTruth 2 none (8 + (d + 1)) (151 + 60 * (d + 1)) [.ref v0, .int v1] z h h' (none) := by
  refine Ct.of G (by decide) (Nat.le_of_ble_eq_true rfl) ?_
  intro p e s m below meth c ls B hw hz hc0 hr hlk hl
  have B : Bd p s0 s E m c cX12_readTruth 2 RX12 := B
  have hx := B.1
  have hb := B.2.1
  have hl : lv_has ls 2 [(0, .ref v0), (1, .int v1)] := hl
  unfold F_X12_readTruth at hf
  obtain ⟨_, hf⟩ := if_some hf
  refine lv_aload_n hx hb dX12_readTruth_0 rfl (lv_at hl 0 rfl) ?_
  refine lv_iload_n hx hb dX12_readTruth_1 rfl (lv_at hl 1 rfl) ?_
  obtain ⟨_, eK, hf⟩ := ob hf
  obtain ⟨h1, e, hf⟩ := ob hf
  refine q_callV (As := [.int v1]) (rest := []) (st1 := []) (H_X12_readBoth e) B hw hz hc0 ((if_some eK).1) (by decide) (ci := 12) rfl rfl my_X12_readBoth mv_X12_readBoth tw_7_18 ⟨by simp only [rmO, rmA]; omega, by simp only [rmO, rmA]; omega⟩ ⟨Nat.zero_le _, Nat.zero_le _⟩ rfl hl.1 rfl rfl (Nat.le_of_ble_eq_true rfl) dX12_readTruth_2 (fun H locs hw => ?_)
  exact w_X12_readTruth_5 G B hz hc0 hr hlk H_X12_readAtom H_X12_readIf H_X12_readTerm H_X12_readSum H_X12_readUnit H_X12_readBoth H_X12_readTruth  n h1 v0 v1 _ _ _ hw (lv_sub hl [0, 1] rfl) hf
set_option maxHeartbeats 4000000 in
theorem cg_X12_readAtom {l : Launch} {s0 : State} {E : Ev} (G : Gl s0 E) {n : Nat} : ∀ d : Nat, (∀ {z : Sh} {h : Hp} {v0 : Nat} {v1 : Int32} {h' : Hp}, (rc_X12_readAtom n d).1 z h v0 v1 = some h' → Ct l s0 E yX12_readAtom cX12_readAtom 2 none (8 + d) (151 + 60 * d) [.ref v0, .int v1] z h h' (none)) ∧ (∀ {z : Sh} {h : Hp} {v0 : Nat} {v1 : Int32} {h' : Hp}, (rc_X12_readAtom n d).2.1 z h v0 v1 = some h' → Ct l s0 E yX12_readIf cX12_readIf 2 none (8 + d) (151 + 60 * d) [.ref v0, .int v1] z h h' (none)) ∧ (∀ {z : Sh} {h : Hp} {v0 : Nat} {v1 : Int32} {h' : Hp}, (rc_X12_readAtom n d).2.2.1 z h v0 v1 = some h' → Ct l s0 E yX12_readTerm cX12_readTerm 2 none (8 + d) (151 + 60 * d) [.ref v0, .int v1] z h h' (none)) ∧ (∀ {z : Sh} {h : Hp} {v0 : Nat} {v1 : Int32} {h' : Hp}, (rc_X12_readAtom n d).2.2.2.1 z h v0 v1 = some h' → Ct l s0 E yX12_readSum cX12_readSum 3 none (8 + d) (151 + 60 * d) [.ref v0, .int v1] z h h' (none)) ∧ (∀ {z : Sh} {h : Hp} {v0 : Nat} {v1 : Int32} {h' : Hp}, (rc_X12_readAtom n d).2.2.2.2.1 z h v0 v1 = some h' → Ct l s0 E yX12_readUnit cX12_readUnit 3 none (8 + d) (151 + 60 * d) [.ref v0, .int v1] z h h' (none)) ∧ (∀ {z : Sh} {h : Hp} {v0 : Nat} {v1 : Int32} {h' : Hp}, (rc_X12_readAtom n d).2.2.2.2.2.1 z h v0 v1 = some h' → Ct l s0 E yX12_readBoth cX12_readBoth 2 none (8 + d) (151 + 60 * d) [.ref v0, .int v1] z h h' (none)) ∧ (∀ {z : Sh} {h : Hp} {v0 : Nat} {v1 : Int32} {h' : Hp}, (rc_X12_readAtom n d).2.2.2.2.2.2 z h v0 v1 = some h' → Ct l s0 E yX12_readTruth cX12_readTruth 2 none (8 + d) (151 + 60 * d) [.ref v0, .int v1] z h h' (none)) := by
  intro d
  induction d with
  | zero => exact ⟨fun hf => (by cases hf), fun hf => (by cases hf), fun hf => (by cases hf), fun hf => (by cases hf), fun hf => (by cases hf), fun hf => (by cases hf), fun hf => (by cases hf)⟩
  | succ d ih => exact ⟨fun hf => co_X12_readAtom (n := n) G (fun hf => ih.1 hf) (fun hf => ih.2.1 hf) (fun hf => ih.2.2.1 hf) (fun hf => ih.2.2.2.1 hf) (fun hf => ih.2.2.2.2.1 hf) (fun hf => ih.2.2.2.2.2.1 hf) (fun hf => ih.2.2.2.2.2.2 hf) hf, fun hf => co_X12_readIf (n := n) G (fun hf => ih.1 hf) (fun hf => ih.2.1 hf) (fun hf => ih.2.2.1 hf) (fun hf => ih.2.2.2.1 hf) (fun hf => ih.2.2.2.2.1 hf) (fun hf => ih.2.2.2.2.2.1 hf) (fun hf => ih.2.2.2.2.2.2 hf) hf, fun hf => co_X12_readTerm (n := n) G (fun hf => ih.1 hf) (fun hf => ih.2.1 hf) (fun hf => ih.2.2.1 hf) (fun hf => ih.2.2.2.1 hf) (fun hf => ih.2.2.2.2.1 hf) (fun hf => ih.2.2.2.2.2.1 hf) (fun hf => ih.2.2.2.2.2.2 hf) hf, fun hf => co_X12_readSum (n := n) G (fun hf => ih.1 hf) (fun hf => ih.2.1 hf) (fun hf => ih.2.2.1 hf) (fun hf => ih.2.2.2.1 hf) (fun hf => ih.2.2.2.2.1 hf) (fun hf => ih.2.2.2.2.2.1 hf) (fun hf => ih.2.2.2.2.2.2 hf) hf, fun hf => co_X12_readUnit (n := n) G (fun hf => ih.1 hf) (fun hf => ih.2.1 hf) (fun hf => ih.2.2.1 hf) (fun hf => ih.2.2.2.1 hf) (fun hf => ih.2.2.2.2.1 hf) (fun hf => ih.2.2.2.2.2.1 hf) (fun hf => ih.2.2.2.2.2.2 hf) hf, fun hf => co_X12_readBoth (n := n) G (fun hf => ih.1 hf) (fun hf => ih.2.1 hf) (fun hf => ih.2.2.1 hf) (fun hf => ih.2.2.2.1 hf) (fun hf => ih.2.2.2.2.1 hf) (fun hf => ih.2.2.2.2.2.1 hf) (fun hf => ih.2.2.2.2.2.2 hf) hf, fun hf => co_X12_readTruth (n := n) G (fun hf => ih.1 hf) (fun hf => ih.2.1 hf) (fun hf => ih.2.2.1 hf) (fun hf => ih.2.2.2.1 hf) (fun hf => ih.2.2.2.2.1 hf) (fun hf => ih.2.2.2.2.2.1 hf) (fun hf => ih.2.2.2.2.2.2 hf) hf⟩
theorem c_X12_readAtom {l : Launch} {s0 : State} {E : Ev} (G : Gl s0 E) {n : Nat} {z : Sh} {h : Hp} {v0 : Nat} {v1 : Int32} {h' : Hp} (hf : f_X12_readAtom n z h v0 v1 = some h') : Ct l s0 E yX12_readAtom cX12_readAtom 2 none 68 3751 [.ref v0, .int v1] z h h' (none) := (cg_X12_readAtom G 60).1 hf
theorem c_X12_readIf {l : Launch} {s0 : State} {E : Ev} (G : Gl s0 E) {n : Nat} {z : Sh} {h : Hp} {v0 : Nat} {v1 : Int32} {h' : Hp} (hf : f_X12_readIf n z h v0 v1 = some h') : Ct l s0 E yX12_readIf cX12_readIf 2 none 68 3751 [.ref v0, .int v1] z h h' (none) := (cg_X12_readAtom G 60).2.1 hf
theorem c_X12_readTerm {l : Launch} {s0 : State} {E : Ev} (G : Gl s0 E) {n : Nat} {z : Sh} {h : Hp} {v0 : Nat} {v1 : Int32} {h' : Hp} (hf : f_X12_readTerm n z h v0 v1 = some h') : Ct l s0 E yX12_readTerm cX12_readTerm 2 none 68 3751 [.ref v0, .int v1] z h h' (none) := (cg_X12_readAtom G 60).2.2.1 hf
theorem c_X12_readSum {l : Launch} {s0 : State} {E : Ev} (G : Gl s0 E) {n : Nat} {z : Sh} {h : Hp} {v0 : Nat} {v1 : Int32} {h' : Hp} (hf : f_X12_readSum n z h v0 v1 = some h') : Ct l s0 E yX12_readSum cX12_readSum 3 none 68 3751 [.ref v0, .int v1] z h h' (none) := (cg_X12_readAtom G 60).2.2.2.1 hf
theorem c_X12_readUnit {l : Launch} {s0 : State} {E : Ev} (G : Gl s0 E) {n : Nat} {z : Sh} {h : Hp} {v0 : Nat} {v1 : Int32} {h' : Hp} (hf : f_X12_readUnit n z h v0 v1 = some h') : Ct l s0 E yX12_readUnit cX12_readUnit 3 none 68 3751 [.ref v0, .int v1] z h h' (none) := (cg_X12_readAtom G 60).2.2.2.2.1 hf
theorem c_X12_readBoth {l : Launch} {s0 : State} {E : Ev} (G : Gl s0 E) {n : Nat} {z : Sh} {h : Hp} {v0 : Nat} {v1 : Int32} {h' : Hp} (hf : f_X12_readBoth n z h v0 v1 = some h') : Ct l s0 E yX12_readBoth cX12_readBoth 2 none 68 3751 [.ref v0, .int v1] z h h' (none) := (cg_X12_readAtom G 60).2.2.2.2.2.1 hf
theorem c_X12_readTruth {l : Launch} {s0 : State} {E : Ev} (G : Gl s0 E) {n : Nat} {z : Sh} {h : Hp} {v0 : Nat} {v1 : Int32} {h' : Hp} (hf : f_X12_readTruth n z h v0 v1 = some h') : Ct l s0 E yX12_readTruth cX12_readTruth 2 none 68 3751 [.ref v0, .int v1] z h h' (none) := (cg_X12_readAtom G 60).2.2.2.2.2.2 hf
